/-! ===== the class: a stack, and the operations on it ===== -/
/-- what stands on the stack of the parish at a, the top first -/
def stk (h : AH) (b : Int) : List Int → Prop
  | [] => True
  | v :: s => am_m h b (s.length : Int) = v ∧ stk h b s
theorem stk_w {h : AH} {b b' i v : Int} : ∀ {s : List Int}, stk h b s → (b' ≠ b ∨ (s.length : Int) ≤ i) → stk (am_w h b' i v) b s
  | [], _, _ => trivial
  | x :: s, hs, hn => by
    have hl : ((x :: s).length : Int) = (s.length : Int) + 1 := by simp
    refine ⟨?_, stk_w hs.2 (by omega)⟩
    rw [am_m_w, if_neg (by omega)]
    exact hs.1
theorem c79 {d : Nat} {h : AH} {a q n v : Int} {pp ss : TT} {K : AK} (c : CC h a q pp ss) (hn : am_m h a 14 = n) (h0 : 0 ≤ n) (h1 : n < 400) (k : K 0 0 (am_w (am_w h (a + 8) n v) a 14 (n + 1))) : am_call d 79 [(2, a), (0, v)] h K := by
  refine v79 ?_
  have e : w32 (n + 1) = n + 1 := w32_id (by omega) (by omega)
  have e2 : am_m (am_w h (a + 8) n v) a 14 = n := by rw [am_m_w, if_neg (by omega)]; exact hn
  simp only [am_t_w, c.P.t, c.P.f5, c.P.f3, c.P.t1, c.P.l1, c.P.f4, c.P.t2, c.P.l2, c.P.f8, c.P.t3, c.P.l3, c.P.f9, c.P.t4, c.P.l4, c.P.f10, c.P.t5, c.P.l5, c.P.f11, c.P.t6, c.P.l6, c.P.f12, c.P.t7, c.P.l7, c.P.f13, c.P.t8, c.P.l8, c.Q.t, c.Q.f6, c.Q.t1, c.Q.l1, c.Q.f7, c.Q.t2, c.Q.l2, c.Q.f8, c.Q.t3, c.Q.l3, c.Q.f9, c.Q.t4, c.Q.l4, c.Q.f10, c.Q.t5, c.Q.l5, c.Q.f11, c.Q.t6, c.Q.l6, c.Q.f12, c.Q.t7, c.Q.l7, c.Q.f13, c.Q.t8, c.Q.l8, c.Q.f14, c.Q.t9, c.Q.l9, c.nw, c.np, c.nv, c.nb, c.yr, c.bud, c.pot, c.pd, hn, e2, e, true_and]
  exact ⟨by omega, fun _ => ⟨⟨h0, h1⟩, k⟩, fun z => absurd h1 z⟩
theorem c80 {d : Nat} {h : AH} {a q n v : Int} {pp ss : TT} {K : AK} (c : CC h a q pp ss) (hn : am_m h a 14 = n) (h0 : 0 < n) (h1 : n ≤ 400) (k : K 0 (am_m h (a + 8) (n - 1)) (am_w h a 14 (n - 1))) : am_call d 80 [(2, a)] h K := by
  refine v80 ?_
  have e : w32 (n - 1) = n - 1 := w32_id (by omega) (by omega)
  have e2 : am_m (am_w h a 14 (n - 1)) a 14 = n - 1 := by rw [am_m_w, if_pos (by omega)]
  have e3 : am_m (am_w h a 14 (n - 1)) a 13 = a + 8 := by rw [am_m_w, if_neg (by omega)]; exact c.P.f13
  have e4 : am_m (am_w h a 14 (n - 1)) (a + 8) (n - 1) = am_m h (a + 8) (n - 1) := by rw [am_m_w, if_neg (by omega)]
  simp only [hn, e, am_t_w, am_l_w, e2, e3, e4, c.P.t, c.P.f5, c.P.f3, c.P.t1, c.P.l1, c.P.f4, c.P.t2, c.P.l2, c.P.f8, c.P.t3, c.P.l3, c.P.f9, c.P.t4, c.P.l4, c.P.f10, c.P.t5, c.P.l5, c.P.f11, c.P.t6, c.P.l6, c.P.f12, c.P.t7, c.P.l7, c.P.f13, c.P.t8, c.P.l8, c.Q.t, c.Q.f6, c.Q.t1, c.Q.l1, c.Q.f7, c.Q.t2, c.Q.l2, c.Q.f8, c.Q.t3, c.Q.l3, c.Q.f9, c.Q.t4, c.Q.l4, c.Q.f10, c.Q.t5, c.Q.l5, c.Q.f11, c.Q.t6, c.Q.l6, c.Q.f12, c.Q.t7, c.Q.l7, c.Q.f13, c.Q.t8, c.Q.l8, c.Q.f14, c.Q.t9, c.Q.l9, c.nw, c.np, c.nv, c.nb, c.yr, c.bud, c.pot, c.pd, true_and]
  exact ⟨fun z => absurd z (by omega), fun _ => ⟨⟨by omega, by omega⟩, k⟩⟩
theorem c81 {d : Nat} {h : AH} {a q co x : Int} {pp ss : TT} {K : AK} (c : CC h a q pp ss) (hx : (co = 4 ∨ co = 5 ∨ co = 8) → 0 ≤ x ∧ x < pp 1 0) (hy : (co = 6 ∨ co = 7) → 0 ≤ x ∧ x < pp 2 0) (k : K 0 (sv pp ss co x) h) : am_call (d + 2) 81 [(2, a), (0, co), (0, x)] h K := by
  have np := c.I.np
  have nv := c.I.nv
  unfold sv at k
  have s3 := c.P.t
  have s4 := c.Q.t
  refine v81 ⟨fun z => ⟨s3, ?_⟩, fun z2 => ⟨fun z => ⟨s3, ?_⟩, fun z3 => ⟨fun z => ⟨s3, ?_⟩, fun z4 => ⟨fun z => ⟨s3, ?_⟩, fun z5 => ⟨fun z => ⟨s3, ?_⟩, fun z6 => ⟨fun z => ⟨s3, ?_⟩, fun z7 => ⟨fun z => ⟨s3, ?_⟩, fun z8 => ?_⟩⟩⟩⟩⟩⟩⟩
  · rw [if_pos z] at k
    rw [c.yr]
    exact k
  · rw [if_neg z2, if_pos z] at k
    rw [c.pot]
    exact k
  · rw [if_neg z2, if_neg z3, if_pos z] at k
    have hx := hx (Or.inl z)
    have e1 := c.cost hx.1 hx.2
    rw [c.P.f5]
    refine ⟨s4, c87 s4 ?_⟩
    rw [c.np, if_pos hx]
    refine ⟨fun z9 => absurd z9 (by decide), fun _ => ?_⟩
    simp only [c.P.t, c.P.f5, c.P.f3, c.P.t1, c.P.l1, c.P.f4, c.P.t2, c.P.l2, c.P.f8, c.P.t3, c.P.l3, c.P.f9, c.P.t4, c.P.l4, c.P.f10, c.P.t5, c.P.l5, c.P.f11, c.P.t6, c.P.l6, c.P.f12, c.P.t7, c.P.l7, c.P.f13, c.P.t8, c.P.l8, c.Q.t, c.Q.f6, c.Q.t1, c.Q.l1, c.Q.f7, c.Q.t2, c.Q.l2, c.Q.f8, c.Q.t3, c.Q.l3, c.Q.f9, c.Q.t4, c.Q.l4, c.Q.f10, c.Q.t5, c.Q.l5, c.Q.f11, c.Q.t6, c.Q.l6, c.Q.f12, c.Q.t7, c.Q.l7, c.Q.f13, c.Q.t8, c.Q.l8, c.Q.f14, c.Q.t9, c.Q.l9, c.nw, c.np, c.nv, c.nb, c.yr, c.bud, c.pot, c.pd, e1, true_and]
    exact ⟨⟨hx.1, by omega⟩, k⟩
  · rw [if_neg z2, if_neg z3, if_neg z4, if_pos z] at k
    have hx := hx (Or.inr (Or.inl z))
    have fb := c.fb hx.1 hx.2
    rw [c.P.f5]
    refine ⟨s4, c87 s4 ?_⟩
    rw [c.np, if_pos hx]
    refine ⟨fun z9 => absurd z9 (by decide), fun _ => ?_⟩
    simp only [c.P.t, c.P.f5, c.P.f3, c.P.t1, c.P.l1, c.P.f4, c.P.t2, c.P.l2, c.P.f8, c.P.t3, c.P.l3, c.P.f9, c.P.t4, c.P.l4, c.P.f10, c.P.t5, c.P.l5, c.P.f11, c.P.t6, c.P.l6, c.P.f12, c.P.t7, c.P.l7, c.P.f13, c.P.t8, c.P.l8, c.Q.t, c.Q.f6, c.Q.t1, c.Q.l1, c.Q.f7, c.Q.t2, c.Q.l2, c.Q.f8, c.Q.t3, c.Q.l3, c.Q.f9, c.Q.t4, c.Q.l4, c.Q.f10, c.Q.t5, c.Q.l5, c.Q.f11, c.Q.t6, c.Q.l6, c.Q.f12, c.Q.t7, c.Q.l7, c.Q.f13, c.Q.t8, c.Q.l8, c.Q.f14, c.Q.t9, c.Q.l9, c.nw, c.np, c.nv, c.nb, c.yr, c.bud, c.pot, c.pd, true_and]
    refine ⟨⟨hx.1, by omega⟩, c12 fb.1 fb.2 ?_⟩
    have e : sm (bt (am_m h (a + 5) x)) 12 = s_nf pp ss x := by
      rw [← nf_sum c.I c.S hx.1 hx.2]
      exact sm_congr (fun i hi => c.fan hx.1 hx.2 (by omega) (by omega))
    rw [e]
    exact k
  · rw [if_neg z2, if_neg z3, if_neg z4, if_neg z5, if_pos z] at k
    have hy := hy (Or.inl z)
    have e1 := c.purse hy.1 hy.2
    rw [c.P.f5]
    refine ⟨s4, c88 s4 ?_⟩
    rw [c.nv, if_pos hy]
    refine ⟨fun z9 => absurd z9 (by decide), fun _ => ?_⟩
    simp only [c.P.t, c.P.f5, c.P.f3, c.P.t1, c.P.l1, c.P.f4, c.P.t2, c.P.l2, c.P.f8, c.P.t3, c.P.l3, c.P.f9, c.P.t4, c.P.l4, c.P.f10, c.P.t5, c.P.l5, c.P.f11, c.P.t6, c.P.l6, c.P.f12, c.P.t7, c.P.l7, c.P.f13, c.P.t8, c.P.l8, c.Q.t, c.Q.f6, c.Q.t1, c.Q.l1, c.Q.f7, c.Q.t2, c.Q.l2, c.Q.f8, c.Q.t3, c.Q.l3, c.Q.f9, c.Q.t4, c.Q.l4, c.Q.f10, c.Q.t5, c.Q.l5, c.Q.f11, c.Q.t6, c.Q.l6, c.Q.f12, c.Q.t7, c.Q.l7, c.Q.f13, c.Q.t8, c.Q.l8, c.Q.f14, c.Q.t9, c.Q.l9, c.nw, c.np, c.nv, c.nb, c.yr, c.bud, c.pot, c.pd, e1, true_and]
    exact ⟨⟨hy.1, by omega⟩, k⟩
  · rw [if_neg z2, if_neg z3, if_neg z4, if_neg z5, if_neg z6, if_pos z] at k
    have hy := hy (Or.inr z)
    rw [c.P.f5]
    refine ⟨s4, c88 s4 ?_⟩
    rw [c.nv, if_pos hy]
    exact ⟨fun z9 => absurd z9 (by decide), fun _ => ⟨s3, c57 c hy.1 (by omega) k⟩⟩
  · rw [if_neg z2, if_neg z3, if_neg z4, if_neg z5, if_neg z6, if_neg z7, if_pos z] at k
    have hx := hx (Or.inr (Or.inr z))
    rw [c.P.f5]
    refine ⟨s4, c87 s4 ?_⟩
    rw [c.np, if_pos hx]
    refine ⟨fun z9 => absurd z9 (by decide), fun _ => ⟨s3, c58 c hx.1 hx.2 ?_⟩⟩
    by_cases hb : ss 7 x = -1
    · rw [if_pos hb] at k ⊢
      exact ⟨fun z9 => absurd z9 (by decide), fun _ => k⟩
    · rw [if_neg hb] at k ⊢
      exact ⟨fun _ => k, fun z9 => absurd rfl z9⟩
  · rw [if_neg z2, if_neg z3, if_neg z4, if_neg z5, if_neg z6, if_neg z7, if_neg z8] at k
    exact k
theorem c82 {d : Nat} {h : AH} {a q co l r : Int} {pp ss : TT} {K : AK} (c : CC h a q pp ss) (h0 : co = 11 → (0 ≤ l ∧ l < 12) ∧ 0 ≤ r ∧ r < pp 1 0) (k : K 0 (if co = 11 then ss 9 (12 * l + r) else rv co l r) h) : am_call (d + 1) 82 [(2, a), (0, co), (0, l), (0, r)] h K := by
  have s3 := c.P.t
  have s4 := c.Q.t
  refine v82 ⟨fun z => ⟨s3, ?_⟩, fun z1 => ?_⟩
  · obtain ⟨hl, hr⟩ := h0 z
    rw [if_pos z] at k
    rw [c.P.f5]
    refine ⟨s4, c87 s4 ?_⟩
    rw [c.np, if_pos hr]
    refine ⟨fun z9 => absurd z9 (by decide), fun _ => ⟨s3, c59 c hl.1 hl.2 hr.1 hr.2 ?_⟩⟩
    have bf := c.S.fan (12 * l + r)
    refine ⟨fun z9 => by rw [z9] at k; exact k, fun z9 => ?_⟩
    rw [show ss 9 (12 * l + r) = 1 by omega] at k
    exact k
  · rw [if_neg z1] at k
    unfold rv at k
    refine ⟨fun z => by rw [if_pos z] at k; exact k, fun z2 => ?_⟩
    rw [if_neg z2] at k
    refine ⟨fun z => by rw [if_pos z] at k; exact k, fun z2 => ?_⟩
    rw [if_neg z2] at k
    refine ⟨fun z => by rw [if_pos z] at k; exact k, fun z2 => ?_⟩
    rw [if_neg z2] at k
    refine ⟨fun z => ?_, fun z2 => ?_⟩
    · rw [if_pos z] at k
      exact ⟨fun z9 => by rw [if_pos z9] at k; exact k, fun z9 => ⟨z9, by rw [if_neg z9] at k; exact k⟩⟩
    · rw [if_neg z2] at k
      exact ⟨fun z => by rw [if_pos z] at k; exact k, fun z => by rw [if_neg z] at k; exact k⟩
theorem c83 {d : Nat} {h : AH} {co l r : Int} {K : AK} (k : K 0 (cv co l r) h) : am_call d 83 [(0, co), (0, l), (0, r)] h K := by
  unfold cv at k
  have one : ∀ {Q1 Q2 : Prop}, Q2 → (((1 : Int) = 0) → Q1) ∧ (¬ ((1 : Int) = 0) → Q2) := fun hq => ⟨fun z => absurd z (by decide), fun _ => hq⟩
  have zer : ∀ {Q1 Q2 : Prop}, Q1 → (((0 : Int) = 0) → Q1) ∧ (¬ ((0 : Int) = 0) → Q2) := fun hq => ⟨fun _ => hq, fun z => absurd rfl z⟩
  refine v83 ⟨fun z => ?_, fun z1 => ?_⟩
  · rw [if_pos z] at k
    exact ⟨fun z9 => one (by rw [if_pos z9] at k; exact k), fun z9 => zer (by rw [if_neg z9] at k; exact k)⟩
  rw [if_neg z1] at k
  refine ⟨fun z => ?_, fun z1 => ?_⟩
  · rw [if_pos z] at k
    exact ⟨fun z9 => one (by rw [if_pos z9] at k; exact k), fun z9 => zer (by rw [if_neg z9] at k; exact k)⟩
  rw [if_neg z1] at k
  refine ⟨fun z => ?_, fun z1 => ?_⟩
  · rw [if_pos z] at k
    exact ⟨fun z9 => one (by rw [if_pos z9] at k; exact k), fun z9 => zer (by rw [if_neg z9] at k; exact k)⟩
  rw [if_neg z1] at k
  refine ⟨fun z => ?_, fun z1 => ?_⟩
  · rw [if_pos z] at k
    exact ⟨fun z9 => zer (by rw [if_pos z9] at k; exact k), fun z9 => one (by rw [if_neg z9] at k; exact k)⟩
  rw [if_neg z1] at k
  refine ⟨fun z => ?_, fun z1 => ?_⟩
  · rw [if_pos z] at k
    exact ⟨fun z9 => zer (by rw [if_pos z9] at k; exact k), fun z9 => one (by rw [if_neg z9] at k; exact k)⟩
  rw [if_neg z1] at k
  refine ⟨fun z => ?_, fun z1 => ?_⟩
  · rw [if_pos z] at k
    exact ⟨fun z9 => zer (by rw [if_pos z9] at k; exact k), fun z9 => one (by rw [if_neg z9] at k; exact k)⟩
  rw [if_neg z1] at k
  exact ⟨fun z9 => zer (by rw [if_pos z9] at k; exact k), fun z9 => one (by rw [if_neg z9] at k; exact k)⟩
