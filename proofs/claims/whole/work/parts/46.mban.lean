/-! ===== the reference carries out a test ===== -/
theorem MP.fr {h h1 : AH} {q lo n : Int} {pp : TT} (x : MP h q pp) (fr : Fr lo n h h1) (ap : q + 11 ≤ lo ∨ lo + n ≤ q) : MP h1 q pp := by
  obtain ⟨x1, x2, x3, x4, x5, x6, x7, x8⟩ := x
  have hp := x1.p
  have hb := x1.b
  have e : ∀ j, 0 ≤ j → j < 11 → ∀ i, am_m h1 (q + j) i = am_m h (q + j) i := fun j y1 y2 i => fr.2.2.2.2 (q + j) (by omega) (by omega) i
  have e0 : ∀ i, am_m h1 q i = am_m h q i := fun i => fr.2.2.2.2 q (by omega) (by omega) i
  refine ⟨x1.fr fr ap, (e0 _).trans x2, (e0 _).trans x3, (e0 _).trans x4, (e0 _).trans x5, fun i y1 y2 => (e 1 (by omega) (by omega) i).trans (x6 i y1 y2), fun i y1 y2 => ⟨(e 3 (by omega) (by omega) i).trans (x7 i y1 y2).1, (e 4 (by omega) (by omega) i).trans (x7 i y1 y2).2⟩, fun i y1 y2 => (e 6 (by omega) (by omega) i).trans (x8 i y1 y2)⟩
theorem MS.fr {h h1 : AH} {b lo n u : Int} {pp ss : TT} (x : MS h b pp ss) (x1 : S8 h b u) (fr : Fr lo n h h1) (ap : b + 8 ≤ lo ∨ lo + n ≤ b) : MS h1 b pp ss := by
  obtain ⟨y1, y2, y3, y5, y6⟩ := x
  have hp := x1.p
  have hb := x1.b
  have e : ∀ j, 0 ≤ j → j < 8 → ∀ i, am_m h1 (b + j) i = am_m h (b + j) i := fun j z1 z2 i => fr.2.2.2.2 (b + j) (by omega) (by omega) i
  have e0 : ∀ i, am_m h1 b i = am_m h b i := fun i => fr.2.2.2.2 b (by omega) (by omega) i
  refine ⟨(e0 _).trans y1, (e0 _).trans y2, (e0 _).trans y3, fun v z1 z2 => ?_, fun p z1 z2 => ?_⟩
  · obtain ⟨w1, w2, w3, w4⟩ := y5 v z1 z2
    have e3 := e 3 (by omega) (by omega) v
    exact ⟨(e 1 (by omega) (by omega) v).trans w1, (e 2 (by omega) (by omega) v).trans w2, by rw [e3]; exact w3, fun p z3 z4 => by rw [e3]; exact w4 p z3 z4⟩
  · obtain ⟨w1, w2, w3⟩ := y6 p z1 z2
    exact ⟨(e 4 (by omega) (by omega) p).trans w1, (e 5 (by omega) (by omega) p).trans w2, (e 6 (by omega) (by omega) p).trans w3⟩
theorem MM.fr {h h1 : AH} {u q s e b lo n : Int} {pp ss : TT} (c : MM h u q s e b pp ss) (fr : Fr lo n h h1) (au : u + 7 ≤ lo ∨ lo + n ≤ u) (ap : b + 8 ≤ lo ∨ lo + n ≤ b) (aq : q + 11 ≤ lo ∨ lo + n ≤ q) : MM h1 u q s e b pp ss := by
  obtain ⟨x1, x2, x3, x4, x5, x6, x7, x8⟩ := c
  have hp := x1.p
  have hb := x1.b
  exact ⟨x1.fr fr au, x2.fr fr ap, x3.fr fr aq, x4.fr x2 fr ap, x5, x6, by rw [fr.2.2.2.2 u (by omega) (by omega)]; exact x7, x8⟩
/-- a write into a state's stack, or what is barred -/
theorem MM.wx {h : AH} {u q s e b b' i v : Int} {pp ss : TT} (c : MM h u q s e b pp ss) (hb : b' = b + 7 ∨ (b' = b ∧ i = 9)) : MM (am_w h b' i v) u q s e b pp ss := by
  obtain ⟨x1, x2, x3, x4, x5, x6, x7, x8⟩ := c
  have hf : Fr b 8 h (am_w h b' i v) := Fr.rf.w (by omega) (by omega)
  have ee : ∀ c' i', ¬ (c' = b' ∧ i' = i) → am_m (am_w h b' i v) c' i' = am_m h c' i' := fun c' i' hn => by rw [am_m_w, if_neg hn]
  refine ⟨x1.fr hf (by omega), x2.w (by omega), x3.fr hf (by omega), ?_, x5, x6, by rw [ee _ _ (by omega)]; exact x7, x8⟩
  obtain ⟨y1, y2, y3, y5, y6⟩ := x4
  refine ⟨(ee _ _ (by omega)).trans y1, (ee _ _ (by omega)).trans y2, (ee _ _ (by omega)).trans y3, fun v z1 z2 => ?_, fun p z1 z2 => ?_⟩
  · obtain ⟨w1, w2, w3, w4⟩ := y5 v z1 z2
    have e3 := ee (b + 3) v (by omega)
    exact ⟨(ee _ _ (by omega)).trans w1, (ee _ _ (by omega)).trans w2, by rw [e3]; exact w3, fun p z3 z4 => by rw [e3]; exact w4 p z3 z4⟩
  · obtain ⟨w1, w2, w3⟩ := y6 p z1 z2
    exact ⟨(ee _ _ (by omega)).trans w1, (ee _ _ (by omega)).trans w2, (ee _ _ (by omega)).trans w3⟩
def mco (c : Int) : Int := if c = 1 then 32 else if c = 2 then 11 else if c = 3 then 12 else if c = 4 then 3 else if c = 5 then 14 else if c = 6 then 13 else if c = 7 then 16 else if c = 8 then 15 else if c = 9 then 33 else if c = 10 then 17 else if c = 11 then 7 else if c = 12 then 34 else if c = 13 then 35 else if c = 14 then 36 else if c = 15 then 37 else if c = 16 then 20 else if c = 17 then 21 else if c = 18 then 38 else if c = 19 then 39 else if c = 20 then 42 else if c = 21 then 43 else if c = 22 then 44 else if c = 23 then 18 else 19
/-- the code from pos to en spells the operations -/
def spm (h : AH) (q en : Int) : Int → List Op → Prop
  | pos, [] => pos = en ∧ 0 ≤ pos ∧ pos ≤ 800
  | pos, o :: r => am_m h (q + 9) pos = mco o.1 ∧ 0 ≤ pos ∧ (if o.1 = 11 then am_m h (q + 9) (pos + 1) = o.2.1 ∧ am_m h (q + 9) (pos + 2) = o.2.2 ∧ spm h q en (pos + 3) r else if o.1 = 1 ∨ (4 ≤ o.1 ∧ o.1 ≤ 8) then am_m h (q + 9) (pos + 1) = o.2.1 ∧ spm h q en (pos + 2) r else spm h q en (pos + 1) r)
theorem spm_bd {h : AH} {q en : Int} : ∀ {L : List Op} {pos : Int}, spm h q en pos L → 0 ≤ pos ∧ pos ≤ en ∧ en ≤ 800
  | [], pos, x => ⟨x.2.1, by have := x.1; omega, by have := x.1; have := x.2.2; omega⟩
  | o :: r, pos, x => by
    unfold spm at x
    obtain ⟨-, x2, x3⟩ := x
    split at x3
    · have := spm_bd x3.2.2
      omega
    · split at x3
      · have := spm_bd x3.2
        omega
      · have := spm_bd x3
        omega
theorem spm_fr {h h1 : AH} {q en : Int} (e9 : ∀ i, am_m h1 (q + 9) i = am_m h (q + 9) i) : ∀ {L : List Op} {pos : Int}, spm h q en pos L → spm h1 q en pos L
  | [], pos, x => x
  | o :: r, pos, x => by
    unfold spm at x ⊢
    obtain ⟨x1, x2, x3⟩ := x
    refine ⟨(e9 _).trans x1, x2, ?_⟩
    split
    · rename_i hz
      rw [if_pos hz] at x3
      exact ⟨(e9 _).trans x3.1, (e9 _).trans x3.2.1, spm_fr e9 x3.2.2⟩
    · rename_i hz
      rw [if_neg hz] at x3
      split
      · rename_i hz
        rw [if_pos hz] at x3
        exact ⟨(e9 _).trans x3.1, spm_fr e9 x3.2⟩
      · rename_i hz
        rw [if_neg hz] at x3
        exact spm_fr e9 x3
section
variable {d : Nat} {h : AH} {u q s e b pos en co x v w : Int} {pp ss : TT} {K : AK} {st : List Int} {y1 y5 : AV}
theorem c154 {l m : Int} (k : K 0 (if l ≤ x ∧ x ≤ m then 1 else 0) h) : am_call d 154 [(0, x), (0, l), (0, m)] h K := by
  refine v154 ⟨fun z => ⟨Or.inl rfl, ?_⟩, fun z => ⟨fun z2 => ⟨Or.inl rfl, ?_⟩, fun z2 => ⟨Or.inr rfl, ?_⟩⟩⟩
  · rw [if_neg (by omega)] at k
    exact k
  · rw [if_neg (by omega)] at k
    exact k
  · rw [if_pos (by omega)] at k
    exact k
theorem c158 (k : K 0 (if x = 32 ∨ x = 3 ∨ (13 ≤ x ∧ x ≤ 16) then 1 else 0) h) : am_call (d + 1) 158 [(0, x)] h K := by
  refine v158 ⟨fun z => ⟨Or.inr rfl, ?_⟩, fun z => ⟨fun z2 => ⟨Or.inr rfl, ?_⟩, fun z2 => c154 ?_⟩⟩
  · rw [if_pos (by omega)] at k
    exact k
  · rw [if_pos (by omega)] at k
    exact k
  · by_cases z3 : 13 ≤ x ∧ x ≤ 16
    · rw [if_pos z3]
      rw [if_pos (by omega)] at k
      exact ⟨fun z => absurd z (by decide), fun _ => ⟨Or.inr rfl, k⟩⟩
    · rw [if_neg z3]
      rw [if_neg (by omega)] at k
      exact ⟨fun _ => ⟨Or.inl rfl, k⟩, fun z => absurd rfl z⟩
theorem c150 (c : MM h u q s e b pp ss) (hc : co = 1 ∨ (4 ≤ co ∧ co ≤ 8)) (hx : (co = 4 ∨ co = 5 ∨ co = 8) → 0 ≤ x ∧ x < pp 1 0) (hy : (co = 6 ∨ co = 7) → 0 ≤ x ∧ x < pp 2 0) (k : K 0 (sv pp ss co x) h) : am_call (d + 2) 150 [(2, b), (0, mco co), (0, x)] h K := by
  have np := c.I.np
  have nv := c.I.nv
  have s8 := c.B.t
  rcases (show co = 1 ∨ co = 4 ∨ co = 5 ∨ co = 6 ∨ co = 7 ∨ co = 8 by omega) with rfl | rfl | rfl | rfl | rfl | rfl
  · exact v150 ⟨fun z => absurd z (by decide), fun _ => ⟨fun z => absurd z (by decide), fun _ => ⟨fun z => absurd z (by decide), fun _ => ⟨fun z => absurd z (by decide), fun _ => ⟨fun _ => k, fun z => absurd rfl z⟩⟩⟩⟩⟩
  · have hx := hx (Or.inl rfl)
    have e1 := c.cost hx.1 hx.2
    refine v150 ⟨fun _ => ?_, fun z => absurd rfl z⟩
    simp only [c.M.t, c.M.f12, c.M.f14, c.M.f15, c.M.f1, c.M.t1, c.M.l1, c.M.f5, c.M.t2, c.M.l2, c.M.f6, c.M.t3, c.M.l3, c.M.f7, c.M.t4, c.M.l4, c.M.f8, c.M.t5, c.M.l5, c.M.f9, c.M.t6, c.M.l6, c.B.t, c.B.f11, c.B.f3, c.B.t1, c.B.l1, c.B.f4, c.B.t2, c.B.l2, c.B.f5, c.B.t3, c.B.l3, c.B.f6, c.B.t4, c.B.l4, c.B.f7, c.B.t5, c.B.l5, c.B.f8, c.B.t6, c.B.l6, c.B.f10, c.B.t7, c.B.l7, c.Q.t, c.Q.f1, c.Q.t1, c.Q.l1, c.Q.f3, c.Q.t2, c.Q.l2, c.Q.f4, c.Q.t3, c.Q.l3, c.Q.f5, c.Q.t4, c.Q.l4, c.Q.f7, c.Q.t5, c.Q.l5, c.Q.f11, c.Q.t6, c.Q.l6, c.Q.f12, c.Q.t7, c.Q.l7, c.Q.f13, c.Q.t8, c.Q.l8, c.Q.f14, c.Q.t9, c.Q.l9, c.Q.f16, c.Q.t10, c.Q.l10, c.nw, c.np, c.nv, c.nb, c.yr, c.pot, c.pd, c.bud, e1, true_and]
    exact ⟨⟨hx.1, by omega⟩, k⟩
  · have hx := hx (Or.inr (Or.inl rfl))
    exact v150 ⟨fun z => absurd z (by decide), fun _ => ⟨fun z => absurd z (by decide), fun _ => ⟨fun _ => ⟨s8, c133 c hx.1 hx.2 k⟩, fun z => absurd rfl z⟩⟩⟩
  · have hy := hy (Or.inl rfl)
    have e1 := c.purse hy.1 hy.2
    refine v150 ⟨fun z => absurd z (by decide), fun _ => ⟨fun _ => ?_, fun z => absurd rfl z⟩⟩
    simp only [c.M.t, c.M.f12, c.M.f14, c.M.f15, c.M.f1, c.M.t1, c.M.l1, c.M.f5, c.M.t2, c.M.l2, c.M.f6, c.M.t3, c.M.l3, c.M.f7, c.M.t4, c.M.l4, c.M.f8, c.M.t5, c.M.l5, c.M.f9, c.M.t6, c.M.l6, c.B.t, c.B.f11, c.B.f3, c.B.t1, c.B.l1, c.B.f4, c.B.t2, c.B.l2, c.B.f5, c.B.t3, c.B.l3, c.B.f6, c.B.t4, c.B.l4, c.B.f7, c.B.t5, c.B.l5, c.B.f8, c.B.t6, c.B.l6, c.B.f10, c.B.t7, c.B.l7, c.Q.t, c.Q.f1, c.Q.t1, c.Q.l1, c.Q.f3, c.Q.t2, c.Q.l2, c.Q.f4, c.Q.t3, c.Q.l3, c.Q.f5, c.Q.t4, c.Q.l4, c.Q.f7, c.Q.t5, c.Q.l5, c.Q.f11, c.Q.t6, c.Q.l6, c.Q.f12, c.Q.t7, c.Q.l7, c.Q.f13, c.Q.t8, c.Q.l8, c.Q.f14, c.Q.t9, c.Q.l9, c.Q.f16, c.Q.t10, c.Q.l10, c.nw, c.np, c.nv, c.nb, c.yr, c.pot, c.pd, c.bud, e1, true_and]
    exact ⟨⟨hy.1, by omega⟩, k⟩
  · have hy := hy (Or.inr rfl)
    exact v150 ⟨fun z => absurd z (by decide), fun _ => ⟨fun z => absurd z (by decide), fun _ => ⟨fun z => absurd z (by decide), fun _ => ⟨fun z => absurd z (by decide), fun _ => ⟨fun z => absurd z (by decide), fun _ => ⟨s8, c136 c hy.1 hy.2 k⟩⟩⟩⟩⟩⟩
  · have hx := hx (Or.inr (Or.inr rfl))
    have e1 := c.built hx.1 hx.2
    refine v150 ⟨fun z => absurd z (by decide), fun _ => ⟨fun z => absurd z (by decide), fun _ => ⟨fun z => absurd z (by decide), fun _ => ⟨fun _ => ?_, fun z => absurd rfl z⟩⟩⟩⟩
    simp only [c.M.t, c.M.f12, c.M.f14, c.M.f15, c.M.f1, c.M.t1, c.M.l1, c.M.f5, c.M.t2, c.M.l2, c.M.f6, c.M.t3, c.M.l3, c.M.f7, c.M.t4, c.M.l4, c.M.f8, c.M.t5, c.M.l5, c.M.f9, c.M.t6, c.M.l6, c.B.t, c.B.f11, c.B.f3, c.B.t1, c.B.l1, c.B.f4, c.B.t2, c.B.l2, c.B.f5, c.B.t3, c.B.l3, c.B.f6, c.B.t4, c.B.l4, c.B.f7, c.B.t5, c.B.l5, c.B.f8, c.B.t6, c.B.l6, c.B.f10, c.B.t7, c.B.l7, c.Q.t, c.Q.f1, c.Q.t1, c.Q.l1, c.Q.f3, c.Q.t2, c.Q.l2, c.Q.f4, c.Q.t3, c.Q.l3, c.Q.f5, c.Q.t4, c.Q.l4, c.Q.f7, c.Q.t5, c.Q.l5, c.Q.f11, c.Q.t6, c.Q.l6, c.Q.f12, c.Q.t7, c.Q.l7, c.Q.f13, c.Q.t8, c.Q.l8, c.Q.f14, c.Q.t9, c.Q.l9, c.Q.f16, c.Q.t10, c.Q.l10, c.nw, c.np, c.nv, c.nb, c.yr, c.pot, c.pd, c.bud, e1, true_and]
    have k : K 0 (if ss 7 x = -1 then 0 else 1) h := k
    exact ⟨⟨hx.1, by omega⟩, fun z => by rw [if_pos z] at k; exact k, fun z => by rw [if_neg z] at k; exact k⟩
/-- what the reference answers of two values -/
def mbo (co l r : Int) : Int := if co < 18 then rv co l r else if co < 23 then cv co l r else if co = 23 then am_and l r else am_or l r
theorem c159 {l r : Int} (hc : 12 ≤ co ∧ co ≤ 24) (k : K 0 (mbo co l r) h) : am_call d 159 [(0, mco co), (0, l), (0, r)] h K := by
  refine v159 ?_
  rcases (show co = 12 ∨ co = 13 ∨ co = 14 ∨ co = 15 ∨ co = 16 ∨ co = 17 ∨ co = 18 ∨ co = 19 ∨ co = 20 ∨ co = 21 ∨ co = 22 ∨ co = 23 ∨ co = 24 by omega) with rfl | rfl | rfl | rfl | rfl | rfl | rfl | rfl | rfl | rfl | rfl | rfl | rfl
  all_goals simp only [show mco 12 = 34 from rfl, show mco 13 = 35 from rfl, show mco 14 = 36 from rfl, show mco 15 = 37 from rfl, show mco 16 = 20 from rfl, show mco 17 = 21 from rfl, show mco 18 = 38 from rfl, show mco 19 = 39 from rfl, show mco 20 = 42 from rfl, show mco 21 = 43 from rfl, show mco 22 = 44 from rfl, show mco 23 = 18 from rfl, show mco 24 = 19 from rfl]
  all_goals simp
  · exact k
  · exact k
  · exact k
  · have k : K 0 (if r = 0 then 0 else w32 (l.tdiv r)) h := k
    exact ⟨fun z => by rw [if_pos z] at k; exact k, fun z => by rw [if_neg z] at k; exact ⟨z, k⟩⟩
  · exact k
  · exact k
  · have k : K 0 (if l < r then 1 else 0) h := k
    exact ⟨fun z => by rw [if_pos z] at k; exact k, fun z => by rw [if_neg (by omega)] at k; exact k⟩
  · have k : K 0 (if r < l then 1 else 0) h := k
    exact ⟨fun z => by rw [if_pos z] at k; exact k, fun z => by rw [if_neg (by omega)] at k; exact k⟩
  · have k : K 0 (if l = r then 1 else 0) h := k
    exact ⟨fun z => by rw [if_pos z] at k; exact k, fun z => by rw [if_neg z] at k; exact k⟩
  · have k : K 0 (if r < l then 0 else 1) h := k
    exact ⟨fun z => by rw [if_pos z] at k; exact k, fun z => by rw [if_neg (by omega)] at k; exact k⟩
  · have k : K 0 (if l < r then 0 else 1) h := k
    exact ⟨fun z => by rw [if_pos z] at k; exact k, fun z => by rw [if_neg (by omega)] at k; exact k⟩
  · exact k
  · exact k
end
theorem mbo_eq {co l r : Int} (hc : 12 ≤ co ∧ co ≤ 24) (hl : 23 ≤ co → (l = 0 ∨ l = 1) ∧ (r = 0 ∨ r = 1)) : mbo co l r = if co < 18 then rv co l r else cv co l r := by
  unfold mbo
  split
  · rfl
  · split
    · rfl
    · obtain ⟨z1, z2⟩ := hl (by omega)
      rcases (show co = 23 ∨ co = 24 by omega) with rfl | rfl
      · rcases z1 with rfl | rfl <;> rcases z2 with rfl | rfl <;> decide
      · rcases z1 with rfl | rfl <;> rcases z2 with rfl | rfl <;> decide
