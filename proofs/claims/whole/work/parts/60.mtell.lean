/-! ===== the reference: beginning, what is told ===== -/
theorem c131 {d : Nat} {h : AH} {u q s e b y lo : Int} {pp : TT} {K : AK} (m0 : M9 h u q s e) (x0 : S8 h b u) (cp : MP h q pp) (cb : MB h q pp) (hI : PI pp) (hB : PB pp) (eu : am_m h u 4 = pp 8 0) (ey : am_m h b 0 = y) (hy : 0 ≤ y ∧ y < 2000000000) (hl : am_m h b 9 = lo) (ap : u + 7 ≤ b ∧ (q + 11 ≤ b ∨ b + 8 ≤ q)) (k : ∀ h2, Fr b 8 h h2 → MM h2 u q s e b pp (s_bg pp y) → am_m h2 b 9 = lo → K 0 0 h2) : am_call d 131 [(2, b)] h K := by
  have np := hI.np
  have nv := hI.nv
  have bq := cp.1.b
  have pq := cp.1.p
  have bu := m0.b
  have pu := m0.p
  refine v131 ⟨x0.t, ?_⟩
  have x1 := x0.w (b := b) (i := 1) (v := 0) (by omega)
  have f1 : Fr b 8 h (am_w h b 1 0) := Fr.rf.w (by omega) (by omega)
  refine v131_5 ⟨x1.t, ?_⟩
  have x2 := x1.w (b := b) (i := 2) (v := 0) (by omega)
  have f2 := f1.w (a := b) (i := 2) (v := 0) (by omega) (by omega)
  refine v131_10 ?_
  generalize hg : am_w (am_w h b 1 0) b 2 0 = g at x2 f2 ⊢
  have g0 : am_m g b 0 = y ∧ am_m g b 1 = 0 ∧ am_m g b 2 = 0 ∧ am_m g b 9 = lo := by
    subst hg
    simp only [am_m_w]
    simp [ey, hl]
  have H2 : ∀ j : Nat, ∀ i : Nat, i + j = 12 → ∀ h1, S8 h1 b u → Fr b 8 h h1 → (∀ n, am_m h1 b n = am_m g b n) → (∀ n, 0 ≤ n → n < 12 → am_m h1 (b + 1) n = 0 ∧ am_m h1 (b + 2) n = 0 ∧ am_m h1 (b + 3) n = am_m h (q + 5) n) → (∀ n, 0 ≤ n → n < (i : Int) → am_m h1 (b + 4) n = am_m h (q + 2) n ∧ am_m h1 (b + 5) n = -1 ∧ am_m h1 (b + 6) n = 0) → WP d 131 (58, [(2, b), (0, (i : Int))], [], h1, 0, 0) K := by
    intro j
    induction j with
    | zero =>
      intro i hij h1 x f gn r1 r2
      refine v131_58 ⟨fun z => absurd z (by omega), fun _ => k h1 f ⟨m0.fr f (by omega), x, cp.fr f ap.2, ⟨(gn 0).trans g0.1, (gn 1).trans g0.2.1, (gn 2).trans g0.2.2.1, fun v z1 z2 => ⟨(r1 v z1 (by omega)).1, (r1 v z1 (by omega)).2.1, ?_⟩, fun p z1 z2 => ⟨(r2 p z1 (by omega)).1.trans (cb.1 p z1 z2), (r2 p z1 (by omega)).2.1, (r2 p z1 (by omega)).2.2⟩⟩, hI, s_bg_SI hB hy, (f.2.2.2.2 u (by omega) (by omega) 4).trans eu, ap⟩ ((gn 9).trans g0.2.2.2)⟩
      rw [(r1 v z1 (by omega)).2.2]
      exact cb.2 v z1 z2
    | succ j ih =>
      intro i hij h1 x f gn r1 r2
      have y := cp.1.fr f ap.2
      have m := m0.fr f (by omega)
      have G := ih (i + 1) (by omega)
      have q2 := f.2.2.2.2 (q + 2) (by omega) (by omega) (i : Int)
      refine v131_58 ⟨fun _ => ?_, fun z => absurd (show (i : Int) < 12 by omega) z⟩
      simp only [x.t, x.f11, x.f3, x.t1, x.l1, x.f4, x.t2, x.l2, x.f5, x.t3, x.l3, x.f6, x.t4, x.l4, x.f7, x.t5, x.l5, x.f8, x.t6, x.l6, x.f10, x.t7, x.l7, y.t, y.f1, y.t1, y.l1, y.f3, y.t2, y.l2, y.f4, y.t3, y.l3, y.f5, y.t4, y.l4, y.f7, y.t5, y.l5, y.f11, y.t6, y.l6, y.f12, y.t7, y.l7, y.f13, y.t8, y.l8, y.f14, y.t9, y.l9, y.f16, y.t10, y.l10, m.t, m.f12, m.f14, m.f15, m.f1, m.t1, m.l1, m.f5, m.t2, m.l2, m.f6, m.t3, m.l3, m.f7, m.t4, m.l4, m.f8, m.t5, m.l5, m.f9, m.t6, m.l6, true_and]
      refine ⟨⟨by omega, by omega⟩, ⟨by omega, by omega⟩, v131_82 ?_⟩
      have xa := x.w (b := b + 4) (i := (i : Int)) (v := am_m h1 (q + 2) (i : Int)) (by omega)
      have fa := f.w (a := b + 4) (i := (i : Int)) (v := am_m h1 (q + 2) (i : Int)) (by omega) (by omega)
      simp only [xa.t, xa.f11, xa.f3, xa.t1, xa.l1, xa.f4, xa.t2, xa.l2, xa.f5, xa.t3, xa.l3, xa.f6, xa.t4, xa.l4, xa.f7, xa.t5, xa.l5, xa.f8, xa.t6, xa.l6, xa.f10, xa.t7, xa.l7, true_and]
      refine ⟨⟨by omega, by omega⟩, v131_89 ?_⟩
      have xb := xa.w (b := b + 5) (i := (i : Int)) (v := -1) (by omega)
      have fb := fa.w (a := b + 5) (i := (i : Int)) (v := -1) (by omega) (by omega)
      simp only [xb.t, xb.f11, xb.f3, xb.t1, xb.l1, xb.f4, xb.t2, xb.l2, xb.f5, xb.t3, xb.l3, xb.f6, xb.t4, xb.l4, xb.f7, xb.t5, xb.l5, xb.f8, xb.t6, xb.l6, xb.f10, xb.t7, xb.l7, true_and]
      refine ⟨⟨by omega, by omega⟩, v131_96 ?_⟩
      rw [w32_nat (by omega)]
      have xc := xb.w (b := b + 6) (i := (i : Int)) (v := 0) (by omega)
      have fc := fb.w (a := b + 6) (i := (i : Int)) (v := 0) (by omega) (by omega)
      refine G _ xc fc (fun n => ?_) (fun n z1 z2 => ⟨?_, ?_, ?_⟩) (fun n z1 z2 => ?_)
      · rw [am_m_w, if_neg (by omega), am_m_w, if_neg (by omega), am_m_w, if_neg (by omega)]
        exact gn n
      · rw [am_m_w, if_neg (by omega), am_m_w, if_neg (by omega), am_m_w, if_neg (by omega)]
        exact (r1 n z1 z2).1
      · rw [am_m_w, if_neg (by omega), am_m_w, if_neg (by omega), am_m_w, if_neg (by omega)]
        exact (r1 n z1 z2).2.1
      · rw [am_m_w, if_neg (by omega), am_m_w, if_neg (by omega), am_m_w, if_neg (by omega)]
        exact (r1 n z1 z2).2.2
      · by_cases zn : n = (i : Int)
        · subst zn
          refine ⟨?_, ?_, ?_⟩
          · rw [am_m_w, if_neg (by omega), am_m_w, if_neg (by omega), am_m_w, if_pos ⟨rfl, rfl⟩]
            exact q2
          · rw [am_m_w, if_neg (by omega), am_m_w, if_pos ⟨rfl, rfl⟩]
          · rw [am_m_w, if_pos ⟨rfl, rfl⟩]
        · rw [am_m_w, if_neg (by omega), am_m_w, if_neg (by omega), am_m_w, if_neg (by omega), am_m_w, if_neg (by omega), am_m_w, if_neg (by omega), am_m_w, if_neg (by omega), am_m_w, if_neg (by omega), am_m_w, if_neg (by omega), am_m_w, if_neg (by omega)]
          exact r2 n z1 (by omega)
  suffices H : ∀ j : Nat, ∀ i : Nat, i + j = 12 → ∀ h1 y1, S8 h1 b u → Fr b 8 h h1 → (∀ n, am_m h1 b n = am_m g b n) → (∀ n, 0 ≤ n → n < (i : Int) → am_m h1 (b + 1) n = 0 ∧ am_m h1 (b + 2) n = 0 ∧ am_m h1 (b + 3) n = am_m h (q + 5) n) → y1 = (0, (i : Int)) → WP d 131 (12, [(2, b), y1], [], h1, 0, 0) K from H 12 0 rfl g _ x2 f2 (fun _ => rfl) (fun n z1 z2 => absurd z1 (by omega)) rfl
  intro j
  induction j with
  | zero =>
    intro i hij h1 y1 x f gn r1 e1
    subst e1
    exact v131_12 ⟨fun z => absurd z (by omega), fun _ => H2 12 0 rfl h1 x f gn (fun n z1 z2 => r1 n z1 (by omega)) (fun n z1 z2 => absurd z1 (by omega))⟩
  | succ j ih =>
    intro i hij h1 y1 x f gn r1 e1
    subst e1
    have G := ih (i + 1) (by omega)
    have q5 := f.2.2.2.2 (q + 5) (by omega) (by omega) (i : Int)
    refine v131_12 ⟨fun _ => ?_, fun z => absurd (show (i : Int) < 12 by omega) z⟩
    simp only [x.t, x.f11, x.f3, x.t1, x.l1, x.f4, x.t2, x.l2, x.f5, x.t3, x.l3, x.f6, x.t4, x.l4, x.f7, x.t5, x.l5, x.f8, x.t6, x.l6, x.f10, x.t7, x.l7, true_and]
    refine ⟨⟨by omega, by omega⟩, v131_25 ?_⟩
    have xa := x.w (b := b + 1) (i := (i : Int)) (v := 0) (by omega)
    have fa := f.w (a := b + 1) (i := (i : Int)) (v := 0) (by omega) (by omega)
    simp only [xa.t, xa.f11, xa.f3, xa.t1, xa.l1, xa.f4, xa.t2, xa.l2, xa.f5, xa.t3, xa.l3, xa.f6, xa.t4, xa.l4, xa.f7, xa.t5, xa.l5, xa.f8, xa.t6, xa.l6, xa.f10, xa.t7, xa.l7, true_and]
    refine ⟨⟨by omega, by omega⟩, v131_32 ?_⟩
    have xb := xa.w (b := b + 2) (i := (i : Int)) (v := 0) (by omega)
    have fb := fa.w (a := b + 2) (i := (i : Int)) (v := 0) (by omega) (by omega)
    have y := cp.1.fr fb ap.2
    have m := m0.fr fb (by omega)
    simp only [xb.t, xb.f11, xb.f3, xb.t1, xb.l1, xb.f4, xb.t2, xb.l2, xb.f5, xb.t3, xb.l3, xb.f6, xb.t4, xb.l4, xb.f7, xb.t5, xb.l5, xb.f8, xb.t6, xb.l6, xb.f10, xb.t7, xb.l7, y.t, y.f1, y.t1, y.l1, y.f3, y.t2, y.l2, y.f4, y.t3, y.l3, y.f5, y.t4, y.l4, y.f7, y.t5, y.l5, y.f11, y.t6, y.l6, y.f12, y.t7, y.l7, y.f13, y.t8, y.l8, y.f14, y.t9, y.l9, y.f16, y.t10, y.l10, m.t, m.f12, m.f14, m.f15, m.f1, m.t1, m.l1, m.f5, m.t2, m.l2, m.f6, m.t3, m.l3, m.f7, m.t4, m.l4, m.f8, m.t5, m.l5, m.f9, m.t6, m.l6, true_and]
    refine ⟨⟨by omega, by omega⟩, ⟨by omega, by omega⟩, v131_50 ?_⟩
    rw [am_m_w, if_neg (by omega), am_m_w, if_neg (by omega), w32_nat (by omega)]
    have xc := xb.w (b := b + 3) (i := (i : Int)) (v := am_m h1 (q + 5) (i : Int)) (by omega)
    have fc := fb.w (a := b + 3) (i := (i : Int)) (v := am_m h1 (q + 5) (i : Int)) (by omega) (by omega)
    refine G _ _ xc fc (fun n => ?_) (fun n z1 z2 => ?_) rfl
    · rw [am_m_w, if_neg (by omega), am_m_w, if_neg (by omega), am_m_w, if_neg (by omega)]
      exact gn n
    · by_cases zn : n = (i : Int)
      · subst zn
        refine ⟨?_, ?_, ?_⟩
        · rw [am_m_w, if_neg (by omega), am_m_w, if_neg (by omega), am_m_w, if_pos ⟨rfl, rfl⟩]
        · rw [am_m_w, if_neg (by omega), am_m_w, if_pos ⟨rfl, rfl⟩]
        · rw [am_m_w, if_pos ⟨rfl, rfl⟩]
          exact q5
      · rw [am_m_w, if_neg (by omega), am_m_w, if_neg (by omega), am_m_w, if_neg (by omega), am_m_w, if_neg (by omega), am_m_w, if_neg (by omega), am_m_w, if_neg (by omega), am_m_w, if_neg (by omega), am_m_w, if_neg (by omega), am_m_w, if_neg (by omega)]
        exact r1 n z1 (by omega)
/-- what is bought is built -/
def SB (pp ss : TT) : Prop := ∀ p, 0 ≤ p → p < pp 1 0 → ss 8 p = 1 → ss 7 p ≠ -1
theorem c147 {d : Nat} {h : AH} {u q s e b x : Int} {pp ss : TT} {K : AK} (c : MM h u q s e b pp ss) (hx : x = 0 ∨ (x = 1 ∧ SB pp ss)) (k : K 0 (if x = 0 then s_bc pp ss else s_bo pp ss) h) : am_call d 147 [(2, b), (0, x)] h K := by
  refine v147 ?_
  have np := c.I.np
  let F : Int → Int := if x = 0 then f_bc ss else f_bo ss
  have kF : K 0 (sm F (pp 1 0).toNat) h := by
    by_cases z : x = 0
    · rw [if_pos z] at k
      show K 0 (sm (if x = 0 then f_bc ss else f_bo ss) _) h
      rw [if_pos z]
      exact k
    · rw [if_neg z] at k
      show K 0 (sm (if x = 0 then f_bc ss else f_bo ss) _) h
      rw [if_neg z]
      exact k
  have hF : ∀ i : Int, 0 ≤ i → i < pp 1 0 → F i = if ss 7 i = -1 then 0 else if x = 0 then 1 else if ss 8 i = 1 then 1 else 0 := fun i z1 z2 => by
    have hb := c.S.bought z1 z2
    by_cases z : x = 0
    · show (if x = 0 then f_bc ss else f_bo ss) i = _
      rw [if_pos z]
      unfold f_bc
      rw [if_pos z]
    · have sb := (hx.resolve_left z).2 i z1 z2
      show (if x = 0 then f_bc ss else f_bo ss) i = _
      rw [if_neg z]
      unfold f_bo
      rw [if_neg z]
      by_cases z7 : ss 7 i = -1
      · rw [if_pos z7]
        rcases hb with hb | hb
        · exact hb
        · exact absurd z7 (sb hb)
      · rw [if_neg z7]
        rcases hb with hb | hb <;> rw [hb] <;> rfl
  clear_value F
  have hbd : ∀ n : Nat, n ≤ (pp 1 0).toNat → 0 ≤ sm F n ∧ sm F n ≤ 12 := fun n hn => by
    have := sm_bd (f := F) (B := 1) (n := n) (fun j hj => by
      rw [hF (j : Int) (by omega) (by omega)]
      split
      · omega
      · split
        · omega
        · split <;> omega)
    omega
  suffices H : ∀ j : Nat, ∀ i : Nat, i + j = (pp 1 0).toNat → WP d 147 (4, [(2, b), (0, x), (0, sm F i), (0, (i : Int))], [], h, 0, 0) K from H _ 0 (Nat.zero_add _)
  intro j
  induction j with
  | zero =>
    intro i hij
    refine v147_4 ?_
    simp only [c.M.t, c.M.f12, c.M.f14, c.M.f15, c.M.f1, c.M.t1, c.M.l1, c.M.f5, c.M.t2, c.M.l2, c.M.f6, c.M.t3, c.M.l3, c.M.f7, c.M.t4, c.M.l4, c.M.f8, c.M.t5, c.M.l5, c.M.f9, c.M.t6, c.M.l6, c.B.t, c.B.f11, c.B.f3, c.B.t1, c.B.l1, c.B.f4, c.B.t2, c.B.l2, c.B.f5, c.B.t3, c.B.l3, c.B.f6, c.B.t4, c.B.l4, c.B.f7, c.B.t5, c.B.l5, c.B.f8, c.B.t6, c.B.l6, c.B.f10, c.B.t7, c.B.l7, c.Q.t, c.Q.f1, c.Q.t1, c.Q.l1, c.Q.f3, c.Q.t2, c.Q.l2, c.Q.f4, c.Q.t3, c.Q.l3, c.Q.f5, c.Q.t4, c.Q.l4, c.Q.f7, c.Q.t5, c.Q.l5, c.Q.f11, c.Q.t6, c.Q.l6, c.Q.f12, c.Q.t7, c.Q.l7, c.Q.f13, c.Q.t8, c.Q.l8, c.Q.f14, c.Q.t9, c.Q.l9, c.Q.f16, c.Q.t10, c.Q.l10, c.nw, c.np, c.nv, c.nb, c.yr, c.pot, c.pd, c.bud, true_and]
    refine ⟨fun z => absurd z (by omega), fun _ => ?_⟩
    rw [show (pp 1 0).toNat = i by omega] at kF
    exact kF
  | succ j ih =>
    intro i hij
    have G := ih (i + 1) (by omega)
    have b1 := hbd (i + 1) (by omega)
    have b0 := hbd i (by omega)
    rw [show sm F (i + 1) = sm F i + F (i : Int) from rfl, hF (i : Int) (by omega) (by omega)] at G b1
    generalize sm F i = acc at G b1 b0 ⊢
    have e1 := c.built (i := (i : Int)) (by omega) (by omega)
    have e2 := c.bought (i := (i : Int)) (by omega) (by omega)
    refine v147_4 ?_
    simp only [c.M.t, c.M.f12, c.M.f14, c.M.f15, c.M.f1, c.M.t1, c.M.l1, c.M.f5, c.M.t2, c.M.l2, c.M.f6, c.M.t3, c.M.l3, c.M.f7, c.M.t4, c.M.l4, c.M.f8, c.M.t5, c.M.l5, c.M.f9, c.M.t6, c.M.l6, c.B.t, c.B.f11, c.B.f3, c.B.t1, c.B.l1, c.B.f4, c.B.t2, c.B.l2, c.B.f5, c.B.t3, c.B.l3, c.B.f6, c.B.t4, c.B.l4, c.B.f7, c.B.t5, c.B.l5, c.B.f8, c.B.t6, c.B.l6, c.B.f10, c.B.t7, c.B.l7, c.Q.t, c.Q.f1, c.Q.t1, c.Q.l1, c.Q.f3, c.Q.t2, c.Q.l2, c.Q.f4, c.Q.t3, c.Q.l3, c.Q.f5, c.Q.t4, c.Q.l4, c.Q.f7, c.Q.t5, c.Q.l5, c.Q.f11, c.Q.t6, c.Q.l6, c.Q.f12, c.Q.t7, c.Q.l7, c.Q.f13, c.Q.t8, c.Q.l8, c.Q.f14, c.Q.t9, c.Q.l9, c.Q.f16, c.Q.t10, c.Q.l10, c.nw, c.np, c.nv, c.nb, c.yr, c.pot, c.pd, c.bud, e1, e2, true_and]
    rw [w32_nat (by omega)]
    refine ⟨fun _ => ⟨⟨by omega, by omega⟩, fun z1 => ?_, fun z1 => ⟨fun z2 => ?_, fun z2 => ⟨⟨by omega, by omega⟩, fun z3 => ?_, fun z3 => ?_⟩⟩⟩, fun z => absurd (show (i : Int) < pp 1 0 by omega) z⟩
    · rw [if_pos z1] at G b1
      rw [w32_id (by omega) (by omega)]
      exact G
    · rw [if_neg z1, if_pos z2] at G b1
      rw [w32_id (by omega) (by omega)]
      exact G
    · rw [if_neg z1, if_neg z2, if_pos z3] at G b1
      rw [w32_id (by omega) (by omega)]
      exact G
    · rw [if_neg z1, if_neg z2, if_neg z3] at G b1
      rw [w32_id (by omega) (by omega)]
      exact G
theorem c148 {d : Nat} {h : AH} {u q s e b w : Int} {pp ss : TT} {K : AK} (c : MM h u q s e b pp ss) (sb : SB pp ss) (k : K 0 (s_tot pp ss w) h) : am_call (d + 1) 148 [(2, b), (0, w)] h K := by
  unfold s_tot at k
  refine v148 ⟨fun z => ⟨c.B.t, ?_⟩, fun z => ⟨fun z1 => ⟨c.B.t, c146 c ?_⟩, fun z1 => ⟨fun z2 => ⟨c.B.t, c147 c (Or.inl rfl) ?_⟩, fun z2 => ⟨fun z3 => ⟨c.B.t, c147 c (Or.inr ⟨rfl, sb⟩) ?_⟩, fun z3 => ⟨c.B.t, ?_⟩⟩⟩⟩⟩
  · rw [if_pos z] at k
    rw [c.pot]
    exact k
  · rw [if_neg z, if_pos z1] at k
    exact k
  · rw [if_neg z, if_neg z1, if_pos z2] at k
    exact k
  · rw [if_neg z, if_neg z1, if_neg z2, if_pos z3] at k
    exact k
  · rw [if_neg z, if_neg z1, if_neg z2, if_neg z3] at k
    rw [c.pd]
    exact k
