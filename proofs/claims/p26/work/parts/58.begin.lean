/-! ===== copying a state of the reference; beginning ===== -/
theorem am_m_cp {h : AH} {a i b j n q k : Int} : am_m (am_cp h a i b j n) q k = if q = b ∧ j ≤ k ∧ k < j + n then am_m h a (i + (k - j)) else am_m h q k := rfl
theorem Fr.cp {lo n a i b j m : Int} {h h1 : AH} (x : Fr lo n h h1) (h2 : lo ≤ b) (h3 : b < lo + n) : Fr lo n h (am_cp h1 a i b j m) := by
  obtain ⟨a1, a2, a3, a4, a5⟩ := x
  refine ⟨a1, a2, a3, a4, fun q hq hn k => ?_⟩
  rw [am_m_cp, if_neg (by omega)]
  exact a5 q hq hn k
theorem S8.cp {h : AH} {a u x i y j n : Int} (s : S8 h a u) (hy : y ≠ a) : S8 (am_cp h x i y j n) a u := by
  exact ⟨s.t, by rw [am_m_cp, if_neg (by omega)]; exact s.f11, by rw [am_m_cp, if_neg (by omega)]; exact s.f3, s.t1, s.l1, by rw [am_m_cp, if_neg (by omega)]; exact s.f4, s.t2, s.l2, by rw [am_m_cp, if_neg (by omega)]; exact s.f5, s.t3, s.l3, by rw [am_m_cp, if_neg (by omega)]; exact s.f6, s.t4, s.l4, by rw [am_m_cp, if_neg (by omega)]; exact s.f7, s.t5, s.l5, by rw [am_m_cp, if_neg (by omega)]; exact s.f8, s.t6, s.l6, by rw [am_m_cp, if_neg (by omega)]; exact s.f10, s.t7, s.l7, s.p, s.b⟩
/-! a plan's first state -/
def PB (pp : TT) : Prop := (0 ≤ pp 8 0 ∧ pp 8 0 ≤ 9999) ∧ (∀ p, 0 ≤ p → p < pp 1 0 → 1 ≤ pp 9 p ∧ pp 9 p ≤ 9999) ∧ (∀ i, pp 10 i = 0 ∨ pp 10 i = 1) ∧ ∀ v p, 0 ≤ v → 0 ≤ p → v < 12 → p < 12 → (pp 2 0 ≤ v ∨ pp 1 0 ≤ p) → pp 10 (12 * v + p) = 0
def CB (h : AH) (q : Int) (pp : TT) : Prop := am_m h q 4 = pp 8 0 ∧ ∀ p, 0 ≤ p → p < pp 1 0 → am_m h (q + 3) p = pp 9 p ∧ (0 ≤ am_m h (q + 5) p ∧ am_m h (q + 5) p < 4096) ∧ ∀ v, 0 ≤ v → v < 12 → am_and (am_shr (am_m h (q + 5) p) v) 1 = pp 10 (12 * v + p)
def MB (h : AH) (q : Int) (pp : TT) : Prop := (∀ p, 0 ≤ p → p < pp 1 0 → am_m h (q + 2) p = pp 9 p) ∧ ∀ v, 0 ≤ v → v < pp 2 0 → (0 ≤ am_m h (q + 5) v ∧ am_m h (q + 5) v < 4096) ∧ ∀ p, 0 ≤ p → p < 12 → am_and (am_shr (am_m h (q + 5) v) p) 1 = pp 10 (12 * v + p)
def s_bg (pp : TT) (y : Int) : TT := fun k i => if k = 0 then y else if k = 1 then pp 8 0 else if k = 6 then pp 9 i else if k = 7 then -1 else if k = 9 then pp 10 i else 0
theorem s_bg_SI {pp : TT} {y : Int} (B : PB pp) (hy : 0 ≤ y ∧ y < 2000000000) : SI pp (s_bg pp y) := by
  refine ⟨hy, B.1, ⟨Int.le_refl _, by show (0 : Int) ≤ 9999; decide⟩, fun v _ _ => ⟨Int.le_refl _, by show (0 : Int) ≤ 9999; decide⟩, fun p z1 z2 => ⟨B.2.1 p z1 z2, ⟨Int.le_refl _, ?_⟩, Or.inl rfl⟩, B.2.2.1, B.2.2.2⟩
  show (-1 : Int) ≤ y
  omega
theorem c47 {d : Nat} {h : AH} {a q a0 y lo : Int} {pp : TT} {K : AK} (x0 : P3 h a a0) (cp : CP h q pp) (cb : CB h q pp) (hI : PI pp) (hB : PB pp) (ey : am_m h a 0 = y) (hy : 0 ≤ y ∧ y < 2000000000) (hl : am_m h a 2 = lo) (ap : q + 10 ≤ a ∨ a + 9 ≤ q) (k : ∀ h2, Fr a 9 h h2 → CC h2 a q pp (s_bg pp y) → am_m h2 a 2 = lo → K 0 0 h2) : am_call d 47 [(2, a), (2, q)] h K := by
  have np := hI.np
  have nv := hI.nv
  have bq := cp.1.b
  have pq := cp.1.p
  refine v47 ⟨x0.t, ?_⟩
  have x1 : P3 (am_w h a 5 q) a q := x0.set5
  have f1 : Fr a 9 h (am_w h a 5 q) := Fr.rf.w (by omega) (by omega)
  have y1 := cp.1.fr f1 ap
  have eb : am_m (am_w h a 5 q) q 4 = pp 8 0 := by rw [am_m_w, if_neg (by omega)]; exact cb.1
  refine v47_5 ?_
  simp only [x1.t, y1.t, eb, true_and]
  have x2 := x1.w (b := a) (i := 1) (v := pp 8 0) (by omega)
  have f2 := f1.w (a := a) (i := 1) (v := pp 8 0) (by omega) (by omega)
  refine v47_13 ⟨x2.t, ?_⟩
  have x3 := x2.w (b := a) (i := 6) (v := 0) (by omega)
  have f3 := f2.w (a := a) (i := 6) (v := 0) (by omega) (by omega)
  refine v47_18 ⟨x3.t, ?_⟩
  have x4 := x3.w (b := a) (i := 7) (v := 0) (by omega)
  have f4 := f3.w (a := a) (i := 7) (v := 0) (by omega) (by omega)
  refine v47_23 ?_
  generalize hg : am_w (am_w (am_w (am_w h a 5 q) a 1 (pp 8 0)) a 6 0) a 7 0 = g at x4 f4 ⊢
  have g0 : am_m g a 0 = y ∧ am_m g a 1 = pp 8 0 ∧ am_m g a 6 = 0 ∧ am_m g a 7 = 0 ∧ am_m g a 2 = lo := by
    subst hg
    simp only [am_m_w]
    simp [ey, hl]
  have H2 : ∀ j : Nat, ∀ i : Nat, i + j = 12 → ∀ h1, P3 h1 a q → Fr a 9 h h1 → (∀ n, am_m h1 a n = am_m g a n) → (∀ n, 0 ≤ n → n < 12 → am_m h1 (a + 1) n = 0 ∧ am_m h1 (a + 3) n = 0) → (∀ n, 0 ≤ n → n < (i : Int) → am_m h1 (a + 4) n = am_m h (q + 3) n ∧ am_m h1 (a + 5) n = am_m h (q + 5) n ∧ am_m h1 (a + 2) n = -1 ∧ am_m h1 (a + 6) n = 0) → WP d 47 (53, [(2, a), (2, q), (0, (i : Int))], [], h1, 0, 0) K := by
    intro j
    induction j with
    | zero =>
      intro i hij h1 x f gn r1 r2
      refine v47_53 ⟨fun z => absurd z (by omega), fun _ => k h1 f ⟨x, cp.fr f ap, ⟨(gn 0).trans g0.1, (gn 1).trans g0.2.1, (gn 6).trans g0.2.2.1, (gn 7).trans g0.2.2.2.1, fun v z1 z2 => ⟨(r1 v z1 (by omega)).1, (r1 v z1 (by omega)).2⟩, fun p z1 z2 => ?_⟩, hI, s_bg_SI hB hy, ap⟩ ((gn 2).trans g0.2.2.2.2)⟩
      obtain ⟨w1, w2, w3, w4⟩ := r2 p z1 (by omega)
      obtain ⟨b1, b2, b3⟩ := cb.2 p z1 z2
      refine ⟨w1.trans b1, w3, w4, by rw [w2]; exact b2, fun v z3 z4 => by rw [w2]; exact b3 v z3 z4⟩
    | succ j ih =>
      intro i hij h1 x f gn r1 r2
      have y := cp.1.fr f ap
      have G := ih (i + 1) (by omega)
      refine v47_53 ⟨fun _ => ?_, fun z => absurd (show (i : Int) < 12 by omega) z⟩
      simp only [x.t, x.f5, x.f3, x.t1, x.l1, x.f4, x.t2, x.l2, x.f8, x.t3, x.l3, x.f9, x.t4, x.l4, x.f10, x.t5, x.l5, x.f11, x.t6, x.l6, x.f12, x.t7, x.l7, x.f13, x.t8, x.l8, y.t, y.f6, y.t1, y.l1, y.f7, y.t2, y.l2, y.f8, y.t3, y.l3, y.f9, y.t4, y.l4, y.f10, y.t5, y.l5, y.f11, y.t6, y.l6, y.f12, y.t7, y.l7, y.f13, y.t8, y.l8, y.f14, y.t9, y.l9, true_and]
      refine ⟨⟨by omega, by omega⟩, ⟨by omega, by omega⟩, v47_71 ?_⟩
      have q4 := f.2.2.2.2 (q + 3) (by omega) (by omega) (i : Int)
      have q5 := f.2.2.2.2 (q + 5) (by omega) (by omega) (i : Int)
      have xa := x.w (b := a + 4) (i := (i : Int)) (v := am_m h1 (q + 3) (i : Int)) (by omega)
      have fa := f.w (a := a + 4) (i := (i : Int)) (v := am_m h1 (q + 3) (i : Int)) (by omega) (by omega)
      have ya := cp.1.fr fa ap
      simp only [xa.t, xa.f5, xa.f3, xa.t1, xa.l1, xa.f4, xa.t2, xa.l2, xa.f8, xa.t3, xa.l3, xa.f9, xa.t4, xa.l4, xa.f10, xa.t5, xa.l5, xa.f11, xa.t6, xa.l6, xa.f12, xa.t7, xa.l7, xa.f13, xa.t8, xa.l8, ya.t, ya.f6, ya.t1, ya.l1, ya.f7, ya.t2, ya.l2, ya.f8, ya.t3, ya.l3, ya.f9, ya.t4, ya.l4, ya.f10, ya.t5, ya.l5, ya.f11, ya.t6, ya.l6, ya.f12, ya.t7, ya.l7, ya.f13, ya.t8, ya.l8, ya.f14, ya.t9, ya.l9, true_and]
      refine ⟨⟨by omega, by omega⟩, ⟨by omega, by omega⟩, v47_83 ?_⟩
      rw [am_m_w, if_neg (by omega)]
      have xb := xa.w (b := a + 5) (i := (i : Int)) (v := am_m h1 (q + 5) (i : Int)) (by omega)
      have fb := fa.w (a := a + 5) (i := (i : Int)) (v := am_m h1 (q + 5) (i : Int)) (by omega) (by omega)
      simp only [xb.t, xb.f5, xb.f3, xb.t1, xb.l1, xb.f4, xb.t2, xb.l2, xb.f8, xb.t3, xb.l3, xb.f9, xb.t4, xb.l4, xb.f10, xb.t5, xb.l5, xb.f11, xb.t6, xb.l6, xb.f12, xb.t7, xb.l7, xb.f13, xb.t8, xb.l8, true_and]
      refine ⟨⟨by omega, by omega⟩, v47_90 ?_⟩
      have xc := xb.w (b := a + 2) (i := (i : Int)) (v := -1) (by omega)
      have fc := fb.w (a := a + 2) (i := (i : Int)) (v := -1) (by omega) (by omega)
      simp only [xc.t, xc.f5, xc.f3, xc.t1, xc.l1, xc.f4, xc.t2, xc.l2, xc.f8, xc.t3, xc.l3, xc.f9, xc.t4, xc.l4, xc.f10, xc.t5, xc.l5, xc.f11, xc.t6, xc.l6, xc.f12, xc.t7, xc.l7, xc.f13, xc.t8, xc.l8, true_and]
      refine ⟨⟨by omega, by omega⟩, v47_97 ?_⟩
      rw [w32_nat (by omega)]
      have xd := xc.w (b := a + 6) (i := (i : Int)) (v := 0) (by omega)
      have fd := fc.w (a := a + 6) (i := (i : Int)) (v := 0) (by omega) (by omega)
      refine G _ xd fd (fun n => ?_) (fun n z1 z2 => ⟨?_, ?_⟩) (fun n z1 z2 => ?_)
      · rw [am_m_w, if_neg (by omega), am_m_w, if_neg (by omega), am_m_w, if_neg (by omega), am_m_w, if_neg (by omega)]
        exact gn n
      · rw [am_m_w, if_neg (by omega), am_m_w, if_neg (by omega), am_m_w, if_neg (by omega), am_m_w, if_neg (by omega)]
        exact (r1 n z1 z2).1
      · rw [am_m_w, if_neg (by omega), am_m_w, if_neg (by omega), am_m_w, if_neg (by omega), am_m_w, if_neg (by omega)]
        exact (r1 n z1 z2).2
      · by_cases zn : n = (i : Int)
        · subst zn
          refine ⟨?_, ?_, ?_, ?_⟩
          · rw [am_m_w, if_neg (by omega), am_m_w, if_neg (by omega), am_m_w, if_neg (by omega), am_m_w, if_pos ⟨rfl, rfl⟩]
            exact q4
          · rw [am_m_w, if_neg (by omega), am_m_w, if_neg (by omega), am_m_w, if_pos ⟨rfl, rfl⟩]
            exact q5
          · rw [am_m_w, if_neg (by omega), am_m_w, if_pos ⟨rfl, rfl⟩]
          · rw [am_m_w, if_pos ⟨rfl, rfl⟩]
        · rw [am_m_w, if_neg (by omega), am_m_w, if_neg (by omega), am_m_w, if_neg (by omega), am_m_w, if_neg (by omega), am_m_w, if_neg (by omega), am_m_w, if_neg (by omega), am_m_w, if_neg (by omega), am_m_w, if_neg (by omega), am_m_w, if_neg (by omega), am_m_w, if_neg (by omega), am_m_w, if_neg (by omega), am_m_w, if_neg (by omega), am_m_w, if_neg (by omega), am_m_w, if_neg (by omega), am_m_w, if_neg (by omega), am_m_w, if_neg (by omega)]
          exact r2 n z1 (by omega)
  suffices H : ∀ j : Nat, ∀ i : Nat, i + j = 12 → ∀ h1, P3 h1 a q → Fr a 9 h h1 → (∀ n, am_m h1 a n = am_m g a n) → (∀ n, 0 ≤ n → n < (i : Int) → am_m h1 (a + 1) n = 0 ∧ am_m h1 (a + 3) n = 0) → WP d 47 (25, [(2, a), (2, q), (0, (i : Int))], [], h1, 0, 0) K from H 12 0 rfl g x4 f4 (fun _ => rfl) (fun n z1 z2 => absurd z1 (by omega))
  intro j
  induction j with
  | zero =>
    intro i hij h1 x f gn r1
    exact v47_25 ⟨fun z => absurd z (by omega), fun _ => H2 12 0 rfl h1 x f gn (fun n z1 z2 => r1 n z1 (by omega)) (fun n z1 z2 => absurd z1 (by omega))⟩
  | succ j ih =>
    intro i hij h1 x f gn r1
    have G := ih (i + 1) (by omega)
    refine v47_25 ⟨fun _ => ?_, fun z => absurd (show (i : Int) < 12 by omega) z⟩
    simp only [x.t, x.f5, x.f3, x.t1, x.l1, x.f4, x.t2, x.l2, x.f8, x.t3, x.l3, x.f9, x.t4, x.l4, x.f10, x.t5, x.l5, x.f11, x.t6, x.l6, x.f12, x.t7, x.l7, x.f13, x.t8, x.l8, true_and]
    refine ⟨⟨by omega, by omega⟩, v47_38 ?_⟩
    have xa := x.w (b := a + 1) (i := (i : Int)) (v := 0) (by omega)
    have fa := f.w (a := a + 1) (i := (i : Int)) (v := 0) (by omega) (by omega)
    simp only [xa.t, xa.f5, xa.f3, xa.t1, xa.l1, xa.f4, xa.t2, xa.l2, xa.f8, xa.t3, xa.l3, xa.f9, xa.t4, xa.l4, xa.f10, xa.t5, xa.l5, xa.f11, xa.t6, xa.l6, xa.f12, xa.t7, xa.l7, xa.f13, xa.t8, xa.l8, true_and]
    refine ⟨⟨by omega, by omega⟩, v47_45 ?_⟩
    rw [w32_nat (by omega)]
    refine G _ (xa.w (by omega)) (fa.w (by omega) (by omega)) (fun n => ?_) (fun n z1 z2 => ?_)
    · rw [am_m_w, if_neg (by omega), am_m_w, if_neg (by omega)]
      exact gn n
    · by_cases zn : n = (i : Int)
      · subst zn
        refine ⟨?_, ?_⟩
        · rw [am_m_w, if_neg (by omega), am_m_w, if_pos ⟨rfl, rfl⟩]
        · rw [am_m_w, if_pos ⟨rfl, rfl⟩]
      · rw [am_m_w, if_neg (by omega), am_m_w, if_neg (by omega), am_m_w, if_neg (by omega), am_m_w, if_neg (by omega)]
        exact r1 n z1 (by omega)
