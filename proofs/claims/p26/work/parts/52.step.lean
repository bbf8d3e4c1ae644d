/-! ===== a year's steps: collecting, building, buying ===== -/
def s_each (pp ss : TT) : Int := if 0 < pp 2 0 then (ss 1 0).tdiv (pp 2 0) else 0
def s_pay (ss : TT) (x : Int) : Nat → TT
  | 0 => ss
  | n + 1 => su (s_pay ss x n) 4 (n : Int) (min 9999 (s_pay ss x n 4 (n : Int) + x))
def s_col (pp ss : TT) : TT := su (s_pay ss (s_each pp ss) (pp 2 0).toNat) 2 0 (min 9999 (ss 2 0 + (ss 1 0 - s_each pp ss * pp 2 0)))
theorem s_pay_ne {ss : TT} {x : Int} {k : Nat} {i : Int} (hk : k ≠ 4) : ∀ n : Nat, s_pay ss x n k i = ss k i
  | 0 => rfl
  | n + 1 => (su_ne (fun z => hk z.1)).trans (s_pay_ne hk n)
theorem s_col_ne {pp ss : TT} {k : Nat} {i : Int} (h4 : k ≠ 4) (h2 : k ≠ 2) : s_col pp ss k i = ss k i := (su_ne (fun z => h2 z.1)).trans (s_pay_ne h4 _)
theorem each_bd {pp ss : TT} (hS : SI pp ss) : (0 ≤ s_each pp ss ∧ s_each pp ss ≤ 9999) ∧ 0 ≤ s_each pp ss * pp 2 0 ∧ s_each pp ss * pp 2 0 ≤ ss 1 0 := by
  have b := hS.bud
  unfold s_each
  split
  · rename_i z
    have t0 := Int.tdiv_nonneg b.1 (Int.le_of_lt z)
    have m0 := Int.tmod_nonneg (pp 2 0) b.1
    have md := Int.tmod_def (ss 1 0) (pp 2 0)
    generalize (ss 1 0).tdiv (pp 2 0) = x at t0 md ⊢
    have l1 : 0 ≤ (pp 2 0 - 1) * x := Int.mul_nonneg (by omega) t0
    rw [Int.sub_mul, Int.one_mul] at l1
    rw [Int.mul_comm x]
    omega
  · omega
theorem s_each_mod {pp ss : TT} (z : 0 < pp 2 0) : (ss 1 0).tmod (pp 2 0) = ss 1 0 - s_each pp ss * pp 2 0 := by
  unfold s_each
  rw [if_pos z, Int.tmod_def, Int.mul_comm]
theorem yw_zero {pp ss : TT} {w : Int} (hb : ∀ p, 0 ≤ p → p < pp 1 0 → ss 7 p < ss 0 0) (hI : PI pp) : s_yw pp ss w = 0 := by
  have np := hI.np
  have := sm_bd (f := f_yw pp ss w) (B := 0) (n := (pp 1 0).toNat) (fun j hj => by
    have := hb (j : Int) (by omega) (by omega)
    unfold f_yw
    split
    · rw [if_neg (by omega)]; omega
    · omega)
  unfold s_yw
  omega
theorem yw_congr {pp ss ss2 : TT} {w : Int} (e7 : ∀ p, ss2 7 p = ss 7 p) (e0 : ss2 0 0 = ss 0 0) : s_yw pp ss2 w = s_yw pp ss w := by
  unfold s_yw
  refine sm_congr (fun i _ => ?_)
  unfold f_yw
  rw [e7, e0]
theorem CY.w {h : AH} {a b i v lo : Int} {pp ss : TT} (x : CY h a pp ss lo) (h1 : b ≠ a + 7) (h2 : ¬ (b = a ∧ i = 2)) : CY (am_w h b i v) a pp ss lo :=
  ⟨by rw [am_m_w, if_neg (by omega)]; exact x.1, fun w z1 z2 => by rw [am_m_w, if_neg (by omega)]; exact x.2 w z1 z2⟩
theorem CY.cg {h : AH} {a lo : Int} {pp ss ss2 : TT} (x : CY h a pp ss lo) (e7 : ∀ p, ss2 7 p = ss 7 p) (e0 : ss2 0 0 = ss 0 0) : CY h a pp ss2 lo :=
  ⟨x.1, fun w z1 z2 => (x.2 w z1 z2).trans (yw_congr e7 e0).symm⟩
theorem c64 {d : Nat} {h : AH} {a q v x : Int} {pp ss : TT} {K : AK} (c : CC h a q pp ss) (h0 : 0 ≤ v) (h1 : v < pp 2 0) (x0 : 0 ≤ x) (x1 : x ≤ 9999) (k : K 0 0 (am_w h (a + 1) v (min 9999 (ss 4 v + x)))) : am_call d 64 [(2, a), (0, v), (0, x)] h K := by
  refine v64 ?_
  have nv := c.I.nv
  have e1 := c.purse h0 h1
  have b1 := c.S.purse h0 h1
  simp only [c.P.t, c.P.f5, c.P.f3, c.P.t1, c.P.l1, c.P.f4, c.P.t2, c.P.l2, c.P.f8, c.P.t3, c.P.l3, c.P.f9, c.P.t4, c.P.l4, c.P.f10, c.P.t5, c.P.l5, c.P.f11, c.P.t6, c.P.l6, c.P.f12, c.P.t7, c.P.l7, c.P.f13, c.P.t8, c.P.l8, c.Q.t, c.Q.f6, c.Q.t1, c.Q.l1, c.Q.f7, c.Q.t2, c.Q.l2, c.Q.f8, c.Q.t3, c.Q.l3, c.Q.f9, c.Q.t4, c.Q.l4, c.Q.f10, c.Q.t5, c.Q.l5, c.Q.f11, c.Q.t6, c.Q.l6, c.Q.f12, c.Q.t7, c.Q.l7, c.Q.f13, c.Q.t8, c.Q.l8, c.Q.f14, c.Q.t9, c.Q.l9, c.nw, c.np, c.nv, c.nb, c.yr, c.bud, c.pot, c.pd, e1, true_and]
  rw [w32_id (x := ss 4 v + x) (by omega) (by omega)]
  exact ⟨⟨h0, by omega⟩, ⟨h0, by omega⟩, k⟩
theorem c67 {d : Nat} {h : AH} {a q lo : Int} {pp ss : TT} {K : AK} (c : CC h a q pp ss) (hl : am_m h a 2 = lo) (hb : ∀ p, 0 ≤ p → p < pp 1 0 → ss 7 p < ss 0 0) (k : ∀ h2, Fr a 9 h h2 → CC h2 a q pp (s_col pp ss) → CY h2 a pp (s_col pp ss) lo → K 0 0 h2) : am_call (d + 1) 67 [(2, a)] h K := by
  refine v67 ?_
  have nw := c.I.nw
  have nv := c.I.nv
  have eb := each_bd c.S
  have po := c.S.pot
  have bu := c.S.bud
  have hI := c.I
  have fin : ∀ h1 n, Fr a 9 h h1 → CC h1 a q pp (s_pay ss (s_each pp ss) (pp 2 0).toNat) → am_m h1 a 2 = lo → (∀ w, 0 ≤ w → w < 4 → am_m h1 (a + 7) w = 0) → n = ss 1 0 - s_each pp ss * pp 2 0 → K 0 0 (am_w h1 a 6 (min 9999 (w32 (ss 2 0 + n)))) := fun h1 n f c2 e2 ez en => by
    subst en
    rw [w32_id (by omega) (by omega)]
    refine k _ (f.w (by omega) (by omega)) (c2.u2 (c2.S.u2 ⟨by omega, by omega⟩)) ⟨?_, fun w z1 z2 => ?_⟩
    · rw [am_m_w, if_neg (by omega)]
      exact e2
    · rw [am_m_w, if_neg (by omega), ez w z1 (by omega)]
      refine (yw_zero (fun p z3 z4 => ?_) hI).symm
      rw [s_col_ne (by decide) (by decide), s_col_ne (by decide) (by decide)]
      exact hb p z3 z4
  have H2 : ∀ j : Nat, ∀ i : Nat, i + j = (pp 2 0).toNat → ∀ h1 y1, Fr a 9 h h1 → CC h1 a q pp (s_pay ss (s_each pp ss) i) → am_m h1 a 2 = lo → (∀ w, 0 ≤ w → w < 4 → am_m h1 (a + 7) w = 0) → 0 < pp 2 0 → WP (d + 1) 67 (50, [(2, a), y1, (0, s_each pp ss), (0, (i : Int))], [], h1, 0, 0) K := by
    intro j
    induction j with
    | zero =>
      intro i hij h1 y1 f c e2 ez z0
      refine v67_50 ?_
      simp only [c.P.t, c.P.f5, c.P.f3, c.P.t1, c.P.l1, c.P.f4, c.P.t2, c.P.l2, c.P.f8, c.P.t3, c.P.l3, c.P.f9, c.P.t4, c.P.l4, c.P.f10, c.P.t5, c.P.l5, c.P.f11, c.P.t6, c.P.l6, c.P.f12, c.P.t7, c.P.l7, c.P.f13, c.P.t8, c.P.l8, c.Q.t, c.Q.f6, c.Q.t1, c.Q.l1, c.Q.f7, c.Q.t2, c.Q.l2, c.Q.f8, c.Q.t3, c.Q.l3, c.Q.f9, c.Q.t4, c.Q.l4, c.Q.f10, c.Q.t5, c.Q.l5, c.Q.f11, c.Q.t6, c.Q.l6, c.Q.f12, c.Q.t7, c.Q.l7, c.Q.f13, c.Q.t8, c.Q.l8, c.Q.f14, c.Q.t9, c.Q.l9, c.nw, c.np, c.nv, c.nb, c.yr, c.bud, c.pot, c.pd, s_pay_ne (show (1 : Nat) ≠ 4 by decide), s_pay_ne (show (2 : Nat) ≠ 4 by decide), true_and]
      refine ⟨fun z => absurd z (by omega), fun _ => ⟨by omega, ?_⟩⟩
      refine fin h1 _ f ?_ e2 ez (s_each_mod z0)
      rw [show (pp 2 0).toNat = i by omega]
      exact c
    | succ j ih =>
      intro i hij h1 y1 f c e2 ez z0
      have bp := c.S.purse (i := (i : Int)) (by omega) (by omega)
      have nx : WP (d + 1) 67 (50, [(2, a), y1, (0, s_each pp ss), (0, w32 ((i : Int) + 1))], [], am_w h1 (a + 1) (i : Int) (min 9999 (s_pay ss (s_each pp ss) i 4 (i : Int) + s_each pp ss)), 0, 0) K := by
        rw [w32_nat (by omega)]
        refine ih (i + 1) (by omega) _ y1 (f.w (by omega) (by omega)) (c.u4 (c.S.u4 ⟨by omega, by omega⟩)) ?_ (fun w z1 z2 => ?_) z0
        · rw [am_m_w, if_neg (by omega)]
          exact e2
        · rw [am_m_w, if_neg (by omega)]
          exact ez w z1 z2
      refine v67_50 ?_
      simp only [c.P.t, c.P.f5, c.P.f3, c.P.t1, c.P.l1, c.P.f4, c.P.t2, c.P.l2, c.P.f8, c.P.t3, c.P.l3, c.P.f9, c.P.t4, c.P.l4, c.P.f10, c.P.t5, c.P.l5, c.P.f11, c.P.t6, c.P.l6, c.P.f12, c.P.t7, c.P.l7, c.P.f13, c.P.t8, c.P.l8, c.Q.t, c.Q.f6, c.Q.t1, c.Q.l1, c.Q.f7, c.Q.t2, c.Q.l2, c.Q.f8, c.Q.t3, c.Q.l3, c.Q.f9, c.Q.t4, c.Q.l4, c.Q.f10, c.Q.t5, c.Q.l5, c.Q.f11, c.Q.t6, c.Q.l6, c.Q.f12, c.Q.t7, c.Q.l7, c.Q.f13, c.Q.t8, c.Q.l8, c.Q.f14, c.Q.t9, c.Q.l9, c.nw, c.np, c.nv, c.nb, c.yr, c.bud, c.pot, c.pd, true_and]
      exact ⟨fun _ => c64 c (by omega) (by omega) eb.1.1 eb.1.2 nx, fun z => absurd (show (i : Int) < pp 2 0 by omega) z⟩
  suffices H : ∀ j : Nat, ∀ i : Nat, i + j = 4 → ∀ h1 y2 y3, Fr a 9 h h1 → CC h1 a q pp ss → am_m h1 a 2 = lo → (∀ w, 0 ≤ w → w < (i : Int) → am_m h1 (a + 7) w = 0) → WP (d + 1) 67 (2, [(2, a), (0, (i : Int)), y2, y3], [], h1, 0, 0) K from H 4 0 rfl h _ _ Fr.rf c hl (fun w z1 z2 => absurd z1 (by omega))
  intro j
  induction j with
  | zero =>
    intro i hij h1 y2 y3 f c e2 ez
    refine v67_2 ?_
    simp only [c.P.t, c.P.f5, c.P.f3, c.P.t1, c.P.l1, c.P.f4, c.P.t2, c.P.l2, c.P.f8, c.P.t3, c.P.l3, c.P.f9, c.P.t4, c.P.l4, c.P.f10, c.P.t5, c.P.l5, c.P.f11, c.P.t6, c.P.l6, c.P.f12, c.P.t7, c.P.l7, c.P.f13, c.P.t8, c.P.l8, c.Q.t, c.Q.f6, c.Q.t1, c.Q.l1, c.Q.f7, c.Q.t2, c.Q.l2, c.Q.f8, c.Q.t3, c.Q.l3, c.Q.f9, c.Q.t4, c.Q.l4, c.Q.f10, c.Q.t5, c.Q.l5, c.Q.f11, c.Q.t6, c.Q.l6, c.Q.f12, c.Q.t7, c.Q.l7, c.Q.f13, c.Q.t8, c.Q.l8, c.Q.f14, c.Q.t9, c.Q.l9, c.nw, c.np, c.nv, c.nb, c.yr, c.bud, c.pot, c.pd, true_and]
    refine ⟨fun z => absurd z (by omega), fun _ => ⟨fun z => ⟨by omega, ?_⟩, fun z => ?_⟩⟩
    · have ee : s_each pp ss = (ss 1 0).tdiv (pp 2 0) := if_pos z
      rw [← ee, w32_id (x := s_each pp ss) (by omega) (by omega)]
      exact H2 _ 0 (Nat.zero_add _) h1 _ f c e2 (fun w z1 z2 => ez w z1 (by omega)) z
    · refine fin h1 _ f ?_ e2 (fun w z1 z2 => ez w z1 (by omega)) ?_
      · rw [show (pp 2 0).toNat = 0 by omega]
        exact c
      · unfold s_each
        rw [if_neg z]
        omega
  | succ j ih =>
    intro i hij h1 y2 y3 f c e2 ez
    refine v67_2 ?_
    simp only [c.P.t, c.P.f5, c.P.f3, c.P.t1, c.P.l1, c.P.f4, c.P.t2, c.P.l2, c.P.f8, c.P.t3, c.P.l3, c.P.f9, c.P.t4, c.P.l4, c.P.f10, c.P.t5, c.P.l5, c.P.f11, c.P.t6, c.P.l6, c.P.f12, c.P.t7, c.P.l7, c.P.f13, c.P.t8, c.P.l8, c.Q.t, c.Q.f6, c.Q.t1, c.Q.l1, c.Q.f7, c.Q.t2, c.Q.l2, c.Q.f8, c.Q.t3, c.Q.l3, c.Q.f9, c.Q.t4, c.Q.l4, c.Q.f10, c.Q.t5, c.Q.l5, c.Q.f11, c.Q.t6, c.Q.l6, c.Q.f12, c.Q.t7, c.Q.l7, c.Q.f13, c.Q.t8, c.Q.l8, c.Q.f14, c.Q.t9, c.Q.l9, c.nw, c.np, c.nv, c.nb, c.yr, c.bud, c.pot, c.pd, true_and]
    refine ⟨fun _ => ⟨⟨by omega, by omega⟩, ?_⟩, fun z => absurd (show (i : Int) < 4 by omega) z⟩
    rw [w32_nat (by omega)]
    refine ih (i + 1) (by omega) _ y2 y3 (f.w (by omega) (by omega)) (c.wx (Or.inl rfl)) ?_ (fun w z1 z2 => ?_)
    · rw [am_m_w, if_neg (by omega)]
      exact e2
    · rw [am_m_w]
      split
      · rfl
      · exact ez w z1 (by omega)
/-! building -/
def s_bld (ss : TT) (p : Int) : TT := su (su ss 7 p (ss 0 0)) 3 0 (w32 (ss 3 0 + ss 6 p))
theorem s_bld_ne {ss : TT} {p i : Int} {k : Nat} (h7 : ¬ (k = 7 ∧ i = p)) (h3 : ¬ (k = 3 ∧ i = 0)) : s_bld ss p k i = ss k i := (su_ne h3).trans (su_ne h7)
theorem s_bld_7 {ss : TT} {p : Int} : s_bld ss p 7 p = ss 0 0 := (su_ne (by omega)).trans su_eq
theorem sm_pt {f g : Int → Int} {p : Int} (h0 : 0 ≤ p) (hfg : ∀ i : Nat, (i : Int) ≠ p → g (i : Int) = f (i : Int)) : ∀ n : Nat, sm g n = sm f n + (if p < (n : Int) then g p - f p else 0)
  | 0 => by rw [if_neg (by omega)]; rfl
  | n + 1 => by
    have ih := sm_pt h0 hfg n
    show sm g n + g (n : Int) = sm f n + f (n : Int) + _
    rw [ih]
    by_cases z : (n : Int) = p
    · rw [if_neg (by omega), if_pos (by omega), ← z]
      omega
    · rw [hfg n z]
      by_cases z2 : p < (n : Int)
      · rw [if_pos z2, if_pos (by omega)]
        omega
      · rw [if_neg z2, if_neg (by omega)]
        omega
theorem yw_bld {pp ss : TT} {p w : Int} (hI : PI pp) (hS : SI pp ss) (h0 : 0 ≤ p) (h1 : p < pp 1 0) (hz : ss 7 p = -1) : s_yw pp (s_bld ss p) w = s_yw pp ss w + (if pp 5 p = w then 1 else 0) := by
  have yr := hS.yr
  have np := hI.np
  unfold s_yw
  rw [sm_pt (f := f_yw pp ss w) (g := f_yw pp (s_bld ss p) w) h0 (fun i hi => by
    unfold f_yw
    rw [s_bld_ne (fun z => hi z.2) (by omega), s_bld_ne (k := 0) (by omega) (by omega)])]
  rw [if_pos (by omega)]
  unfold f_yw
  rw [s_bld_7, s_bld_ne (k := 0) (by omega) (by omega), hz, if_pos rfl, if_neg (show ¬ (-1 : Int) = ss 0 0 by omega)]
  split <;> omega
theorem yw_bd {pp ss : TT} {w : Int} (hI : PI pp) : 0 ≤ s_yw pp ss w ∧ s_yw pp ss w ≤ 12 := by
  have np := hI.np
  have := sm_bd (f := f_yw pp ss w) (B := 1) (n := (pp 1 0).toNat) (fun j hj => by
    unfold f_yw
    split
    · split <;> omega
    · omega)
  unfold s_yw
  omega
theorem c72 {d : Nat} {h : AH} {a q p lo : Int} {pp ss : TT} {K : AK} (c : CC h a q pp ss) (cy : CY h a pp ss lo) (h0 : 0 ≤ p) (h1 : p < pp 1 0) (hz : ss 7 p = -1) (k : ∀ h2, Fr a 9 h h2 → CC h2 a q pp (s_bld ss p) → CY h2 a pp (s_bld ss p) lo → K 0 0 h2) : am_call d 72 [(2, a), (0, p)] h K := by
  have np := c.I.np
  have nw := c.I.nw
  have yr := c.S.yr
  have wd := c.I.ward h0 h1
  have yb := yw_bd (ss := ss) (w := pp 5 p) c.I
  have hI := c.I
  have hS := c.S
  refine v72 ?_
  simp only [c.P.t, c.P.f5, c.P.f3, c.P.t1, c.P.l1, c.P.f4, c.P.t2, c.P.l2, c.P.f8, c.P.t3, c.P.l3, c.P.f9, c.P.t4, c.P.l4, c.P.f10, c.P.t5, c.P.l5, c.P.f11, c.P.t6, c.P.l6, c.P.f12, c.P.t7, c.P.l7, c.P.f13, c.P.t8, c.P.l8, c.Q.t, c.Q.f6, c.Q.t1, c.Q.l1, c.Q.f7, c.Q.t2, c.Q.l2, c.Q.f8, c.Q.t3, c.Q.l3, c.Q.f9, c.Q.t4, c.Q.l4, c.Q.f10, c.Q.t5, c.Q.l5, c.Q.f11, c.Q.t6, c.Q.l6, c.Q.f12, c.Q.t7, c.Q.l7, c.Q.f13, c.Q.t8, c.Q.l8, c.Q.f14, c.Q.t9, c.Q.l9, c.nw, c.np, c.nv, c.nb, c.yr, c.bud, c.pot, c.pd, true_and]
  refine ⟨⟨h0, by omega⟩, ?_⟩
  have c2 := c.u7 (i := p) (v := ss 0 0) (c.S.u7 ⟨by omega, by omega⟩)
  have e1 := c2.ward h0 h1
  have e2 : am_m (am_w h (a + 2) p (ss 0 0)) (a + 7) (pp 5 p) = s_yw pp ss (pp 5 p) := by
    rw [am_m_w, if_neg (by omega)]
    exact cy.2 _ wd.1 wd.2
  refine v72_10 ?_
  simp only [c2.P.t, c2.P.f5, c2.P.f3, c2.P.t1, c2.P.l1, c2.P.f4, c2.P.t2, c2.P.l2, c2.P.f8, c2.P.t3, c2.P.l3, c2.P.f9, c2.P.t4, c2.P.l4, c2.P.f10, c2.P.t5, c2.P.l5, c2.P.f11, c2.P.t6, c2.P.l6, c2.P.f12, c2.P.t7, c2.P.l7, c2.P.f13, c2.P.t8, c2.P.l8, c2.Q.t, c2.Q.f6, c2.Q.t1, c2.Q.l1, c2.Q.f7, c2.Q.t2, c2.Q.l2, c2.Q.f8, c2.Q.t3, c2.Q.l3, c2.Q.f9, c2.Q.t4, c2.Q.l4, c2.Q.f10, c2.Q.t5, c2.Q.l5, c2.Q.f11, c2.Q.t6, c2.Q.l6, c2.Q.f12, c2.Q.t7, c2.Q.l7, c2.Q.f13, c2.Q.t8, c2.Q.l8, c2.Q.f14, c2.Q.t9, c2.Q.l9, c2.nw, c2.np, c2.nv, c2.nb, c2.yr, c2.bud, c2.pot, c2.pd, e1, e2, true_and]
  refine ⟨⟨h0, by omega⟩, ⟨wd.1, by omega⟩, ⟨wd.1, by omega⟩, ?_⟩
  rw [w32_id (x := s_yw pp ss (pp 5 p) + 1) (by omega) (by omega)]
  have c3 := c2.wx (b := a + 7) (i := pp 5 p) (v := s_yw pp ss (pp 5 p) + 1) (Or.inl rfl)
  have e3 := c3.cost h0 h1
  have q1 : su ss 7 p (ss 0 0) 3 0 = ss 3 0 := su_ne (by omega)
  have q2 : su ss 7 p (ss 0 0) 6 p = ss 6 p := su_ne (by omega)
  refine v72_28 ?_
  simp only [c3.P.t, c3.P.f5, c3.P.f3, c3.P.t1, c3.P.l1, c3.P.f4, c3.P.t2, c3.P.l2, c3.P.f8, c3.P.t3, c3.P.l3, c3.P.f9, c3.P.t4, c3.P.l4, c3.P.f10, c3.P.t5, c3.P.l5, c3.P.f11, c3.P.t6, c3.P.l6, c3.P.f12, c3.P.t7, c3.P.l7, c3.P.f13, c3.P.t8, c3.P.l8, c3.Q.t, c3.Q.f6, c3.Q.t1, c3.Q.l1, c3.Q.f7, c3.Q.t2, c3.Q.l2, c3.Q.f8, c3.Q.t3, c3.Q.l3, c3.Q.f9, c3.Q.t4, c3.Q.l4, c3.Q.f10, c3.Q.t5, c3.Q.l5, c3.Q.f11, c3.Q.t6, c3.Q.l6, c3.Q.f12, c3.Q.t7, c3.Q.l7, c3.Q.f13, c3.Q.t8, c3.Q.l8, c3.Q.f14, c3.Q.t9, c3.Q.l9, c3.nw, c3.np, c3.nv, c3.nb, c3.yr, c3.bud, c3.pot, c3.pd, e3, q1, q2, true_and]
  refine ⟨⟨h0, by omega⟩, v72_43 ?_⟩
  refine k _ (((Fr.rf.w (by omega) (by omega)).w (by omega) (by omega)).w (by omega) (by omega)) (c3.u3 c3.S.u3) ⟨?_, fun w z1 z2 => ?_⟩
  · rw [am_m_w, if_neg (by omega), am_m_w, if_neg (by omega), am_m_w, if_neg (by omega)]
    exact cy.1
  · rw [yw_bld hI hS h0 h1 hz, am_m_w, if_neg (by omega), am_m_w]
    by_cases zw : w = pp 5 p
    · subst zw
      rw [if_pos ⟨rfl, rfl⟩, if_pos rfl]
    · rw [if_neg (by omega), if_neg (by omega), am_m_w, if_neg (by omega), cy.2 w z1 z2]
      omega