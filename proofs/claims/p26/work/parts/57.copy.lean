/-! ===== copies ===== -/
theorem P3.set5 {h : AH} {a q q2 : Int} (x : P3 h a q2) : P3 (am_w h a 5 q) a q := by
  exact ⟨x.t, by rw [am_m_w, if_pos ⟨rfl, rfl⟩], by rw [am_m_w, if_neg (by omega)]; exact x.f3, x.t1, x.l1, by rw [am_m_w, if_neg (by omega)]; exact x.f4, x.t2, x.l2, by rw [am_m_w, if_neg (by omega)]; exact x.f8, x.t3, x.l3, by rw [am_m_w, if_neg (by omega)]; exact x.f9, x.t4, x.l4, by rw [am_m_w, if_neg (by omega)]; exact x.f10, x.t5, x.l5, by rw [am_m_w, if_neg (by omega)]; exact x.f11, x.t6, x.l6, by rw [am_m_w, if_neg (by omega)]; exact x.f12, x.t7, x.l7, by rw [am_m_w, if_neg (by omega)]; exact x.f13, x.t8, x.l8, x.p, x.b⟩
theorem c48 {d : Nat} {h : AH} {a q a2 q2 : Int} {pp ss : TT} {K : AK} (c : CC h a q pp ss) (x0 : P3 h a2 q2) (ap : a + 9 ≤ a2 ∨ a2 + 9 ≤ a) (aq : q + 10 ≤ a2 ∨ a2 + 9 ≤ q) (k : ∀ h2, Fr a2 9 h h2 → CC h2 a2 q pp ss → am_m h2 a2 2 = -1 → K 0 0 h2) : am_call d 48 [(2, a2), (2, a)] h K := by
  have bq := c.P.b
  have pq := c.P.p
  have np := c.I.np
  have nv := c.I.nv
  refine v48 ⟨c.P.t, x0.t, ?_⟩
  have F5 := c.P.f5
  rw [F5]
  have x1 : P3 (am_w h a2 5 q) a2 q := x0.set5
  have f1 : Fr a2 9 h (am_w h a2 5 q) := Fr.rf.w (by omega) (by omega)
  have c1 := c.fr f1 ap aq
  refine v48_8 ?_
  simp only [x1.t, c1.P.t, c1.yr, true_and]
  have x2 := x1.w (b := a2) (i := 0) (v := ss 0 0) (by omega)
  have f2 := f1.w (a := a2) (i := 0) (v := ss 0 0) (by omega) (by omega)
  have c2 := c.fr f2 ap aq
  refine v48_16 ?_
  simp only [x2.t, c2.P.t, c2.bud, true_and]
  have x3 := x2.w (b := a2) (i := 1) (v := ss 1 0) (by omega)
  have f3 := f2.w (a := a2) (i := 1) (v := ss 1 0) (by omega) (by omega)
  have c3 := c.fr f3 ap aq
  refine v48_24 ?_
  simp only [x3.t, c3.P.t, c3.pot, true_and]
  have x4 := x3.w (b := a2) (i := 6) (v := ss 2 0) (by omega)
  have f4 := f3.w (a := a2) (i := 6) (v := ss 2 0) (by omega) (by omega)
  have c4 := c.fr f4 ap aq
  refine v48_32 ?_
  simp only [x4.t, c4.P.t, c4.pd, true_and]
  have x5 := x4.w (b := a2) (i := 7) (v := ss 3 0) (by omega)
  have f5 := f4.w (a := a2) (i := 7) (v := ss 3 0) (by omega) (by omega)
  refine v48_40 ⟨x5.t, ?_⟩
  have x6 := x5.w (b := a2) (i := 2) (v := -1) (by omega)
  have f6 := f5.w (a := a2) (i := 2) (v := -1) (by omega) (by omega)
  refine v48_45 ?_
  generalize hh6 : am_w (am_w (am_w (am_w (am_w (am_w h a2 5 q) a2 0 (ss 0 0)) a2 1 (ss 1 0)) a2 6 (ss 2 0)) a2 7 (ss 3 0)) a2 2 (-1) = h6 at x6 f6 ⊢
  have g0 : am_m h6 a2 0 = ss 0 0 ∧ am_m h6 a2 1 = ss 1 0 ∧ am_m h6 a2 6 = ss 2 0 ∧ am_m h6 a2 7 = ss 3 0 ∧ am_m h6 a2 2 = -1 := by
    subst hh6
    simp only [am_m_w]
    simp
  have H2 : ∀ j : Nat, ∀ i : Nat, i + j = 12 → ∀ h1, P3 h1 a2 q → Fr a2 9 h h1 → (∀ n, n ≠ 0 → am_m h1 a2 n = am_m h6 a2 n ∧ True) → am_m h1 a2 0 = am_m h6 a2 0 → (∀ n, 0 ≤ n → n < 12 → am_m h1 (a2 + 1) n = am_m h (a + 1) n ∧ am_m h1 (a2 + 3) n = am_m h (a + 3) n) → (∀ n, 0 ≤ n → n < (i : Int) → am_m h1 (a2 + 4) n = am_m h (a + 4) n ∧ am_m h1 (a2 + 5) n = am_m h (a + 5) n ∧ am_m h1 (a2 + 2) n = am_m h (a + 2) n ∧ am_m h1 (a2 + 6) n = am_m h (a + 6) n) → WP d 48 (85, [(2, a2), (2, a), (0, (i : Int))], [], h1, 0, 0) K := by
    intro j
    induction j with
    | zero =>
      intro i hij h1 x f gn g00 r1 r2
      refine v48_85 ⟨fun z => absurd z (by omega), fun _ => k h1 f ⟨x, c.2.1.fr f aq, ⟨g00.trans g0.1, (gn 1 (by decide)).1.trans g0.2.1, (gn 6 (by decide)).1.trans g0.2.2.1, (gn 7 (by decide)).1.trans g0.2.2.2.1, fun v z1 z2 => ⟨(r1 v z1 (by omega)).1.trans (c.purse z1 z2), (r1 v z1 (by omega)).2.trans (c.gave z1 z2)⟩, fun p z1 z2 => ?_⟩, c.I, c.S, aq⟩ ((gn 2 (by decide)).1.trans g0.2.2.2.2)⟩
      obtain ⟨w1, w2, w3, w4⟩ := r2 p z1 (by omega)
      refine ⟨w1.trans (c.cost z1 z2), w3.trans (c.built z1 z2), w4.trans (c.bought z1 z2), by rw [w2]; exact c.fb z1 z2, fun v z3 z4 => by rw [w2]; exact c.fan z1 z2 z3 z4⟩
    | succ j ih =>
      intro i hij h1 x f gn g00 r1 r2
      have rd : ∀ n, a ≤ n → n < a + 9 → ∀ m, am_m h1 n m = am_m h n m := fun n z1 z2 m => f.2.2.2.2 n (by omega) (by omega) m
      have y := c.P.fr f ap
      have G := ih (i + 1) (by omega)
      refine v48_85 ⟨fun _ => ?_, fun z => absurd (show (i : Int) < 12 by omega) z⟩
      simp only [x.t, x.f5, x.f3, x.t1, x.l1, x.f4, x.t2, x.l2, x.f8, x.t3, x.l3, x.f9, x.t4, x.l4, x.f10, x.t5, x.l5, x.f11, x.t6, x.l6, x.f12, x.t7, x.l7, x.f13, x.t8, x.l8, y.t, y.f5, y.f3, y.t1, y.l1, y.f4, y.t2, y.l2, y.f8, y.t3, y.l3, y.f9, y.t4, y.l4, y.f10, y.t5, y.l5, y.f11, y.t6, y.l6, y.f12, y.t7, y.l7, y.f13, y.t8, y.l8, true_and]
      refine ⟨⟨by omega, by omega⟩, ⟨by omega, by omega⟩, v48_103 ?_⟩
      have xa := x.w (b := a2 + 4) (i := (i : Int)) (v := am_m h1 (a + 4) (i : Int)) (by omega)
      have fa := f.w (a := a2 + 4) (i := (i : Int)) (v := am_m h1 (a + 4) (i : Int)) (by omega) (by omega)
      have ya := c.P.fr fa ap
      simp only [xa.t, xa.f5, xa.f3, xa.t1, xa.l1, xa.f4, xa.t2, xa.l2, xa.f8, xa.t3, xa.l3, xa.f9, xa.t4, xa.l4, xa.f10, xa.t5, xa.l5, xa.f11, xa.t6, xa.l6, xa.f12, xa.t7, xa.l7, xa.f13, xa.t8, xa.l8, ya.t, ya.f5, ya.f3, ya.t1, ya.l1, ya.f4, ya.t2, ya.l2, ya.f8, ya.t3, ya.l3, ya.f9, ya.t4, ya.l4, ya.f10, ya.t5, ya.l5, ya.f11, ya.t6, ya.l6, ya.f12, ya.t7, ya.l7, ya.f13, ya.t8, ya.l8, true_and]
      refine ⟨⟨by omega, by omega⟩, ⟨by omega, by omega⟩, v48_115 ?_⟩
      rw [am_m_w, if_neg (by omega)]
      have xb := xa.w (b := a2 + 5) (i := (i : Int)) (v := am_m h1 (a + 5) (i : Int)) (by omega)
      have fb := fa.w (a := a2 + 5) (i := (i : Int)) (v := am_m h1 (a + 5) (i : Int)) (by omega) (by omega)
      have yb := c.P.fr fb ap
      simp only [xb.t, xb.f5, xb.f3, xb.t1, xb.l1, xb.f4, xb.t2, xb.l2, xb.f8, xb.t3, xb.l3, xb.f9, xb.t4, xb.l4, xb.f10, xb.t5, xb.l5, xb.f11, xb.t6, xb.l6, xb.f12, xb.t7, xb.l7, xb.f13, xb.t8, xb.l8, yb.t, yb.f5, yb.f3, yb.t1, yb.l1, yb.f4, yb.t2, yb.l2, yb.f8, yb.t3, yb.l3, yb.f9, yb.t4, yb.l4, yb.f10, yb.t5, yb.l5, yb.f11, yb.t6, yb.l6, yb.f12, yb.t7, yb.l7, yb.f13, yb.t8, yb.l8, true_and]
      refine ⟨⟨by omega, by omega⟩, ⟨by omega, by omega⟩, v48_127 ?_⟩
      rw [am_m_w, if_neg (by omega), am_m_w, if_neg (by omega)]
      have xc := xb.w (b := a2 + 2) (i := (i : Int)) (v := am_m h1 (a + 2) (i : Int)) (by omega)
      have fc := fb.w (a := a2 + 2) (i := (i : Int)) (v := am_m h1 (a + 2) (i : Int)) (by omega) (by omega)
      have yc := c.P.fr fc ap
      simp only [xc.t, xc.f5, xc.f3, xc.t1, xc.l1, xc.f4, xc.t2, xc.l2, xc.f8, xc.t3, xc.l3, xc.f9, xc.t4, xc.l4, xc.f10, xc.t5, xc.l5, xc.f11, xc.t6, xc.l6, xc.f12, xc.t7, xc.l7, xc.f13, xc.t8, xc.l8, yc.t, yc.f5, yc.f3, yc.t1, yc.l1, yc.f4, yc.t2, yc.l2, yc.f8, yc.t3, yc.l3, yc.f9, yc.t4, yc.l4, yc.f10, yc.t5, yc.l5, yc.f11, yc.t6, yc.l6, yc.f12, yc.t7, yc.l7, yc.f13, yc.t8, yc.l8, true_and]
      refine ⟨⟨by omega, by omega⟩, ⟨by omega, by omega⟩, v48_139 ?_⟩
      rw [am_m_w, if_neg (by omega), am_m_w, if_neg (by omega), am_m_w, if_neg (by omega), w32_nat (by omega)]
      have xd := xc.w (b := a2 + 6) (i := (i : Int)) (v := am_m h1 (a + 6) (i : Int)) (by omega)
      have fd := fc.w (a := a2 + 6) (i := (i : Int)) (v := am_m h1 (a + 6) (i : Int)) (by omega) (by omega)
      have q4 := rd (a + 4) (by omega) (by omega) (i : Int)
      have q5 := rd (a + 5) (by omega) (by omega) (i : Int)
      have q2 := rd (a + 2) (by omega) (by omega) (i : Int)
      have q6 := rd (a + 6) (by omega) (by omega) (i : Int)
      refine G _ xd fd (fun n hn => ⟨?_, trivial⟩) ?_ (fun n z1 z2 => ⟨?_, ?_⟩) (fun n z1 z2 => ?_)
      · rw [am_m_w, if_neg (by omega), am_m_w, if_neg (by omega), am_m_w, if_neg (by omega), am_m_w, if_neg (by omega)]
        exact (gn n hn).1
      · rw [am_m_w, if_neg (by omega), am_m_w, if_neg (by omega), am_m_w, if_neg (by omega), am_m_w, if_neg (by omega)]
        exact g00
      · rw [am_m_w, if_neg (by omega), am_m_w, if_neg (by omega), am_m_w, if_neg (by omega), am_m_w, if_neg (by omega)]
        exact (r1 n z1 z2).1
      · rw [am_m_w, if_neg (by omega), am_m_w, if_neg (by omega), am_m_w, if_neg (by omega), am_m_w, if_neg (by omega)]
        exact (r1 n z1 z2).2
      · by_cases zn : n = (i : Int)
        · subst zn
          refine ⟨?_, ?_, ?_, ?_⟩
          · rw [am_m_w, if_neg (by omega), am_m_w, if_neg (by omega), am_m_w, if_neg (by omega), am_m_w, if_pos ⟨rfl, rfl⟩]
            exact q4
          · rw [am_m_w, if_neg (by omega), am_m_w, if_neg (by omega), am_m_w, if_pos ⟨rfl, rfl⟩]
            exact q5
          · rw [am_m_w, if_neg (by omega), am_m_w, if_pos ⟨rfl, rfl⟩]
            exact q2
          · rw [am_m_w, if_pos ⟨rfl, rfl⟩]
            exact q6
        · rw [am_m_w, if_neg (by omega), am_m_w, if_neg (by omega), am_m_w, if_neg (by omega), am_m_w, if_neg (by omega), am_m_w, if_neg (by omega), am_m_w, if_neg (by omega), am_m_w, if_neg (by omega), am_m_w, if_neg (by omega), am_m_w, if_neg (by omega), am_m_w, if_neg (by omega), am_m_w, if_neg (by omega), am_m_w, if_neg (by omega), am_m_w, if_neg (by omega), am_m_w, if_neg (by omega), am_m_w, if_neg (by omega), am_m_w, if_neg (by omega)]
          exact r2 n z1 (by omega)
  suffices H : ∀ j : Nat, ∀ i : Nat, i + j = 12 → ∀ h1, P3 h1 a2 q → Fr a2 9 h h1 → (∀ n, am_m h1 a2 n = am_m h6 a2 n) → (∀ n, 0 ≤ n → n < (i : Int) → am_m h1 (a2 + 1) n = am_m h (a + 1) n ∧ am_m h1 (a2 + 3) n = am_m h (a + 3) n) → WP d 48 (47, [(2, a2), (2, a), (0, (i : Int))], [], h1, 0, 0) K from H 12 0 rfl h6 x6 f6 (fun _ => rfl) (fun n z1 z2 => absurd z1 (by omega))
  intro j
  induction j with
  | zero =>
    intro i hij h1 x f gn r1
    exact v48_47 ⟨fun z => absurd z (by omega), fun _ => H2 12 0 rfl h1 x f (fun n _ => ⟨gn n, trivial⟩) (gn 0) (fun n z1 z2 => r1 n z1 (by omega)) (fun n z1 z2 => absurd z1 (by omega))⟩
  | succ j ih =>
    intro i hij h1 x f gn r1
    have rd : ∀ n, a ≤ n → n < a + 9 → ∀ m, am_m h1 n m = am_m h n m := fun n z1 z2 m => f.2.2.2.2 n (by omega) (by omega) m
    have y := c.P.fr f ap
    have G := ih (i + 1) (by omega)
    refine v48_47 ⟨fun _ => ?_, fun z => absurd (show (i : Int) < 12 by omega) z⟩
    simp only [x.t, x.f5, x.f3, x.t1, x.l1, x.f4, x.t2, x.l2, x.f8, x.t3, x.l3, x.f9, x.t4, x.l4, x.f10, x.t5, x.l5, x.f11, x.t6, x.l6, x.f12, x.t7, x.l7, x.f13, x.t8, x.l8, y.t, y.f5, y.f3, y.t1, y.l1, y.f4, y.t2, y.l2, y.f8, y.t3, y.l3, y.f9, y.t4, y.l4, y.f10, y.t5, y.l5, y.f11, y.t6, y.l6, y.f12, y.t7, y.l7, y.f13, y.t8, y.l8, true_and]
    refine ⟨⟨by omega, by omega⟩, ⟨by omega, by omega⟩, v48_65 ?_⟩
    have xa := x.w (b := a2 + 1) (i := (i : Int)) (v := am_m h1 (a + 1) (i : Int)) (by omega)
    have fa := f.w (a := a2 + 1) (i := (i : Int)) (v := am_m h1 (a + 1) (i : Int)) (by omega) (by omega)
    have ya := c.P.fr fa ap
    simp only [xa.t, xa.f5, xa.f3, xa.t1, xa.l1, xa.f4, xa.t2, xa.l2, xa.f8, xa.t3, xa.l3, xa.f9, xa.t4, xa.l4, xa.f10, xa.t5, xa.l5, xa.f11, xa.t6, xa.l6, xa.f12, xa.t7, xa.l7, xa.f13, xa.t8, xa.l8, ya.t, ya.f5, ya.f3, ya.t1, ya.l1, ya.f4, ya.t2, ya.l2, ya.f8, ya.t3, ya.l3, ya.f9, ya.t4, ya.l4, ya.f10, ya.t5, ya.l5, ya.f11, ya.t6, ya.l6, ya.f12, ya.t7, ya.l7, ya.f13, ya.t8, ya.l8, true_and]
    refine ⟨⟨by omega, by omega⟩, ⟨by omega, by omega⟩, v48_77 ?_⟩
    rw [am_m_w, if_neg (by omega), w32_nat (by omega)]
    have q1 := rd (a + 1) (by omega) (by omega) (i : Int)
    have q3 := rd (a + 3) (by omega) (by omega) (i : Int)
    refine G _ (xa.w (by omega)) (fa.w (by omega) (by omega)) (fun n => ?_) (fun n z1 z2 => ?_)
    · rw [am_m_w, if_neg (by omega), am_m_w, if_neg (by omega)]
      exact gn n
    · by_cases zn : n = (i : Int)
      · subst zn
        refine ⟨?_, ?_⟩
        · rw [am_m_w, if_neg (by omega), am_m_w, if_pos ⟨rfl, rfl⟩]
          exact q1
        · rw [am_m_w, if_pos ⟨rfl, rfl⟩]
          exact q3
      · rw [am_m_w, if_neg (by omega), am_m_w, if_neg (by omega), am_m_w, if_neg (by omega), am_m_w, if_neg (by omega)]
        exact r1 n z1 (by omega)
