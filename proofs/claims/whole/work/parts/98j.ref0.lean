/-! ===== the reference's constructor ===== -/
theorem Fr.e {h h2 : AH} {lo n : Int} (x : Fr 0 0 h h2) : Fr lo n h h2 := ⟨x.1, x.2.1, x.2.2.1, x.2.2.2.1, fun b hb _ i => x.2.2.2.2 b hb (by omega) i⟩
theorem CU3.n2 {h0 h hE : AH} {a m : Int} {T : Nat} {G : Int → Int} {l : List (Int × Nat × Int)} (c : CU3 h0 h a m T G l) (f : Fr 53 1 h hE) (ha : 54 ≤ a) (hm : 0 < m) (ok : okO m l = true) : am_t hE a = T ∧ (∀ i, am_m hE a i = G i) ∧ RWS hE a l ∧ a + m ≤ am_n hE := by
  obtain ⟨fr, na, n, t, g, r⟩ := c
  have hf := f.1
  exact ⟨(f.2.2.2.1 a (by omega)).1.trans t, fun i => (f.2.2.2.2 a (by omega) (by omega) i).trans (g i), RWS.cg (h := h) (m := m) (fun b z1 z2 => ⟨(f.2.2.2.1 b (by omega)).1, (f.2.2.2.1 b (by omega)).2, fun i => f.2.2.2.2 b (by omega) (by omega) i⟩) ok r, by omega⟩
def T9 (h : AH) (G : Int → Int) : Prop := am_t h 53 = 9 ∧ (∀ i, am_m h 53 i = G i) ∧ (am_t h 54 = 20 ∧ am_l h 54 = 2000) ∧ (am_t h 55 = 20 ∧ am_l h 55 = 401) ∧ (am_t h 56 = 20 ∧ am_l h 56 = 401) ∧ (am_t h 57 = 20 ∧ am_l h 57 = 401) ∧ (am_t h 58 = 20 ∧ am_l h 58 = 401) ∧ (am_t h 59 = 20 ∧ am_l h 59 = 401)
theorem T9.ns {h h2 : AH} {G : Int → Int} (x : T9 h G) (f : Fr 0 0 h h2) (hn : 60 ≤ am_n h) : T9 h2 G := by
  obtain ⟨x1, x2, x3, x4, x5, x6, x7, x8⟩ := x
  have e : ∀ b, b < 60 → ∀ {u v}, am_t h b = u ∧ am_l h b = v → am_t h2 b = u ∧ am_l h2 b = v := fun b hb u v y => ⟨(f.2.2.2.1 b (by omega)).1.trans y.1, (f.2.2.2.1 b (by omega)).2.trans y.2⟩
  exact ⟨(f.2.2.2.1 53 (by omega)).1.trans x1, fun i => (f.2.2.2.2 53 (by omega) (by omega) i).trans (x2 i), e 54 (by decide) x3, e 55 (by decide) x4, e 56 (by decide) x5, e 57 (by decide) x6, e 58 (by decide) x7, e 59 (by decide) x8⟩
theorem T9.w {h : AH} {G : Int → Int} {f v : Int} (x : T9 h G) : T9 (am_w h 53 f v) (fun i => if i = f then v else G i) := by
  refine ⟨x.1, fun i => ?_, x.2.2⟩
  show _ = if i = f then v else G i
  rw [am_m_w]
  by_cases y : i = f
  · rw [if_pos ⟨rfl, y⟩, if_pos y]
  · rw [if_neg (fun w => y w.2), if_neg y, x.2.1]
theorem s8_of {h : AH} {a u : Int} {G : Int → Int} (t : am_t h a = 8) (e : ∀ i, am_m h a i = G i) (r : RWS h a [(7, 20, 400), (6, 20, 12), (5, 20, 12), (4, 20, 12), (3, 20, 12), (2, 20, 12), (1, 20, 12)]) (g : G 11 = u ∧ G 3 = a + 1 ∧ G 4 = a + 2 ∧ G 5 = a + 3 ∧ G 6 = a + 4 ∧ G 7 = a + 5 ∧ G 8 = a + 6 ∧ G 10 = a + 7) (a0 : 0 ≤ a) (hn : a + 8 ≤ am_n h) : S8 h a u := by
  obtain ⟨⟨r7, s7, -⟩, ⟨r6, s6, -⟩, ⟨r5, s5, -⟩, ⟨r4, s4, -⟩, ⟨r3, s3, -⟩, ⟨r2, s2, -⟩, ⟨r1, s1, -⟩, -⟩ := r
  obtain ⟨g11, g3, g4, g5, g6, g7, g8, g10⟩ := g
  exact ⟨t, (e _).trans g11, (e _).trans g3, r1, s1, (e _).trans g4, r2, s2, (e _).trans g5, r3, s3, (e _).trans g6, r4, s4, (e _).trans g7, r5, s5, (e _).trans g8, r6, s6, (e _).trans g10, r7, s7, a0, by omega⟩
/-- the same, and no cell is made -/
theorem c131n {d : Nat} {h : AH} {u q s e b y lo : Int} {pp : TT} {K : AK} (m0 : M9 h u q s e) (x0 : S8 h b u) (cp : MP h q pp) (cb : MB h q pp) (hI : PI pp) (hB : PB pp) (eu : am_m h u 4 = pp 8 0) (ey : am_m h b 0 = y) (hy : 0 ≤ y ∧ y < 2000000000) (hl : am_m h b 9 = lo) (ap : u + 7 ≤ b ∧ (q + 11 ≤ b ∨ b + 8 ≤ q)) (k : ∀ h2, Fr b 8 h h2 → MM h2 u q s e b pp (s_bg pp y) → am_m h2 b 9 = lo → am_n h2 = am_n h → K 0 0 h2) : am_call d 131 [(2, b)] h K := by
  have np := hI.np
  have nv := hI.nv
  have bq := cp.1.b
  have pq := cp.1.p
  have bu := m0.b
  have pu := m0.p
  refine v131 ⟨x0.t, ?_⟩
  have x1 := x0.w (b := b) (i := 1) (v := 0) (by omega)
  have f1 : Fr b 8 h (am_w h b 1 0) := Fr.rf.w (by omega) (by omega)
  refine v131_5 ⟨x1.t, ?_⟩
  have x2 := x1.w (b := b) (i := 2) (v := 0) (by omega)
  have f2 := f1.w (a := b) (i := 2) (v := 0) (by omega) (by omega)
  refine v131_10 ?_
  generalize hg : am_w (am_w h b 1 0) b 2 0 = g at x2 f2 ⊢
  have ng : am_n g = am_n h := by
    subst hg
    rfl
  have g0 : am_m g b 0 = y ∧ am_m g b 1 = 0 ∧ am_m g b 2 = 0 ∧ am_m g b 9 = lo := by
    subst hg
    simp only [am_m_w]
    simp [ey, hl]
  have H2 : ∀ j : Nat, ∀ i : Nat, i + j = 12 → ∀ h1, S8 h1 b u → Fr b 8 h h1 → am_n h1 = am_n h → (∀ n, am_m h1 b n = am_m g b n) → (∀ n, 0 ≤ n → n < 12 → am_m h1 (b + 1) n = 0 ∧ am_m h1 (b + 2) n = 0 ∧ am_m h1 (b + 3) n = am_m h (q + 5) n) → (∀ n, 0 ≤ n → n < (i : Int) → am_m h1 (b + 4) n = am_m h (q + 2) n ∧ am_m h1 (b + 5) n = -1 ∧ am_m h1 (b + 6) n = 0) → WP d 131 (58, [(2, b), (0, (i : Int))], [], h1, 0, 0) K := by
    intro j
    induction j with
    | zero =>
      intro i hij h1 x f en gn r1 r2
      refine v131_58 ⟨fun z => absurd z (by omega), fun _ => k h1 f ⟨m0.fr f (by omega), x, cp.fr f ap.2, ⟨(gn 0).trans g0.1, (gn 1).trans g0.2.1, (gn 2).trans g0.2.2.1, fun v z1 z2 => ⟨(r1 v z1 (by omega)).1, (r1 v z1 (by omega)).2.1, ?_⟩, fun p z1 z2 => ⟨(r2 p z1 (by omega)).1.trans (cb.1 p z1 z2), (r2 p z1 (by omega)).2.1, (r2 p z1 (by omega)).2.2⟩⟩, hI, s_bg_SI hB hy, (f.2.2.2.2 u (by omega) (by omega) 4).trans eu, ap⟩ ((gn 9).trans g0.2.2.2) en⟩
      rw [(r1 v z1 (by omega)).2.2]
      exact cb.2 v z1 z2
    | succ j ih =>
      intro i hij h1 x f en gn r1 r2
      have y := cp.1.fr f ap.2
      have m := m0.fr f (by omega)
      have G := ih (i + 1) (by omega)
      have q2 := f.2.2.2.2 (q + 2) (by omega) (by omega) (i : Int)
      refine v131_58 ⟨fun _ => ?_, fun z => absurd (show (i : Int) < 12 by omega) z⟩
      simp only [x.t, x.f11, x.f3, x.t1, x.l1, x.f4, x.t2, x.l2, x.f5, x.t3, x.l3, x.f6, x.t4, x.l4, x.f7, x.t5, x.l5, x.f8, x.t6, x.l6, x.f10, x.t7, x.l7, y.t, y.f1, y.t1, y.l1, y.f3, y.t2, y.l2, y.f4, y.t3, y.l3, y.f5, y.t4, y.l4, y.f7, y.t5, y.l5, y.f11, y.t6, y.l6, y.f12, y.t7, y.l7, y.f13, y.t8, y.l8, y.f14, y.t9, y.l9, y.f16, y.t10, y.l10, m.t, m.f12, m.f14, m.f15, m.f1, m.t1, m.l1, m.f5, m.t2, m.l2, m.f6, m.t3, m.l3, m.f7, m.t4, m.l4, m.f8, m.t5, m.l5, m.f9, m.t6, m.l6, true_and]
      refine ⟨⟨by omega, by omega⟩, ⟨by omega, by omega⟩, v131_82 ?_⟩
      have xa := x.w (b := b + 4) (i := (i : Int)) (v := am_m h1 (q + 2) (i : Int)) (by omega)
      have fa := f.w (a := b + 4) (i := (i : Int)) (v := am_m h1 (q + 2) (i : Int)) (by omega) (by omega)
      simp only [xa.t, xa.f11, xa.f3, xa.t1, xa.l1, xa.f4, xa.t2, xa.l2, xa.f5, xa.t3, xa.l3, xa.f6, xa.t4, xa.l4, xa.f7, xa.t5, xa.l5, xa.f8, xa.t6, xa.l6, xa.f10, xa.t7, xa.l7, true_and]
      refine ⟨⟨by omega, by omega⟩, v131_89 ?_⟩
      have xb := xa.w (b := b + 5) (i := (i : Int)) (v := -1) (by omega)
      have fb := fa.w (a := b + 5) (i := (i : Int)) (v := -1) (by omega) (by omega)
      simp only [xb.t, xb.f11, xb.f3, xb.t1, xb.l1, xb.f4, xb.t2, xb.l2, xb.f5, xb.t3, xb.l3, xb.f6, xb.t4, xb.l4, xb.f7, xb.t5, xb.l5, xb.f8, xb.t6, xb.l6, xb.f10, xb.t7, xb.l7, true_and]
      refine ⟨⟨by omega, by omega⟩, v131_96 ?_⟩
      rw [w32_nat (by omega)]
      have xc := xb.w (b := b + 6) (i := (i : Int)) (v := 0) (by omega)
      have fc := fb.w (a := b + 6) (i := (i : Int)) (v := 0) (by omega) (by omega)
      refine G _ xc fc en (fun n => ?_) (fun n z1 z2 => ⟨?_, ?_, ?_⟩) (fun n z1 z2 => ?_)
      · rw [am_m_w, if_neg (by omega), am_m_w, if_neg (by omega), am_m_w, if_neg (by omega)]
        exact gn n
      · rw [am_m_w, if_neg (by omega), am_m_w, if_neg (by omega), am_m_w, if_neg (by omega)]
        exact (r1 n z1 z2).1
      · rw [am_m_w, if_neg (by omega), am_m_w, if_neg (by omega), am_m_w, if_neg (by omega)]
        exact (r1 n z1 z2).2.1
      · rw [am_m_w, if_neg (by omega), am_m_w, if_neg (by omega), am_m_w, if_neg (by omega)]
        exact (r1 n z1 z2).2.2
      · by_cases zn : n = (i : Int)
        · subst zn
          refine ⟨?_, ?_, ?_⟩
          · rw [am_m_w, if_neg (by omega), am_m_w, if_neg (by omega), am_m_w, if_pos ⟨rfl, rfl⟩]
            exact q2
          · rw [am_m_w, if_neg (by omega), am_m_w, if_pos ⟨rfl, rfl⟩]
          · rw [am_m_w, if_pos ⟨rfl, rfl⟩]
        · rw [am_m_w, if_neg (by omega), am_m_w, if_neg (by omega), am_m_w, if_neg (by omega), am_m_w, if_neg (by omega), am_m_w, if_neg (by omega), am_m_w, if_neg (by omega), am_m_w, if_neg (by omega), am_m_w, if_neg (by omega), am_m_w, if_neg (by omega)]
          exact r2 n z1 (by omega)
  suffices H : ∀ j : Nat, ∀ i : Nat, i + j = 12 → ∀ h1 y1, S8 h1 b u → Fr b 8 h h1 → am_n h1 = am_n h → (∀ n, am_m h1 b n = am_m g b n) → (∀ n, 0 ≤ n → n < (i : Int) → am_m h1 (b + 1) n = 0 ∧ am_m h1 (b + 2) n = 0 ∧ am_m h1 (b + 3) n = am_m h (q + 5) n) → y1 = (0, (i : Int)) → WP d 131 (12, [(2, b), y1], [], h1, 0, 0) K from H 12 0 rfl g _ x2 f2 ng (fun _ => rfl) (fun n z1 z2 => absurd z1 (by omega)) rfl
  intro j
  induction j with
  | zero =>
    intro i hij h1 y1 x f en gn r1 e1
    subst e1
    exact v131_12 ⟨fun z => absurd z (by omega), fun _ => H2 12 0 rfl h1 x f en gn (fun n z1 z2 => r1 n z1 (by omega)) (fun n z1 z2 => absurd z1 (by omega))⟩
  | succ j ih =>
    intro i hij h1 y1 x f en gn r1 e1
    subst e1
    have G := ih (i + 1) (by omega)
    have q5 := f.2.2.2.2 (q + 5) (by omega) (by omega) (i : Int)
    refine v131_12 ⟨fun _ => ?_, fun z => absurd (show (i : Int) < 12 by omega) z⟩
    simp only [x.t, x.f11, x.f3, x.t1, x.l1, x.f4, x.t2, x.l2, x.f5, x.t3, x.l3, x.f6, x.t4, x.l4, x.f7, x.t5, x.l5, x.f8, x.t6, x.l6, x.f10, x.t7, x.l7, true_and]
    refine ⟨⟨by omega, by omega⟩, v131_25 ?_⟩
    have xa := x.w (b := b + 1) (i := (i : Int)) (v := 0) (by omega)
    have fa := f.w (a := b + 1) (i := (i : Int)) (v := 0) (by omega) (by omega)
    simp only [xa.t, xa.f11, xa.f3, xa.t1, xa.l1, xa.f4, xa.t2, xa.l2, xa.f5, xa.t3, xa.l3, xa.f6, xa.t4, xa.l4, xa.f7, xa.t5, xa.l5, xa.f8, xa.t6, xa.l6, xa.f10, xa.t7, xa.l7, true_and]
    refine ⟨⟨by omega, by omega⟩, v131_32 ?_⟩
    have xb := xa.w (b := b + 2) (i := (i : Int)) (v := 0) (by omega)
    have fb := fa.w (a := b + 2) (i := (i : Int)) (v := 0) (by omega) (by omega)
    have y := cp.1.fr fb ap.2
    have m := m0.fr fb (by omega)
    simp only [xb.t, xb.f11, xb.f3, xb.t1, xb.l1, xb.f4, xb.t2, xb.l2, xb.f5, xb.t3, xb.l3, xb.f6, xb.t4, xb.l4, xb.f7, xb.t5, xb.l5, xb.f8, xb.t6, xb.l6, xb.f10, xb.t7, xb.l7, y.t, y.f1, y.t1, y.l1, y.f3, y.t2, y.l2, y.f4, y.t3, y.l3, y.f5, y.t4, y.l4, y.f7, y.t5, y.l5, y.f11, y.t6, y.l6, y.f12, y.t7, y.l7, y.f13, y.t8, y.l8, y.f14, y.t9, y.l9, y.f16, y.t10, y.l10, m.t, m.f12, m.f14, m.f15, m.f1, m.t1, m.l1, m.f5, m.t2, m.l2, m.f6, m.t3, m.l3, m.f7, m.t4, m.l4, m.f8, m.t5, m.l5, m.f9, m.t6, m.l6, true_and]
    refine ⟨⟨by omega, by omega⟩, ⟨by omega, by omega⟩, v131_50 ?_⟩
    rw [am_m_w, if_neg (by omega), am_m_w, if_neg (by omega), w32_nat (by omega)]
    have xc := xb.w (b := b + 3) (i := (i : Int)) (v := am_m h1 (q + 5) (i : Int)) (by omega)
    have fc := fb.w (a := b + 3) (i := (i : Int)) (v := am_m h1 (q + 5) (i : Int)) (by omega) (by omega)
    refine G _ _ xc fc en (fun n => ?_) (fun n z1 z2 => ?_) rfl
    · rw [am_m_w, if_neg (by omega), am_m_w, if_neg (by omega), am_m_w, if_neg (by omega)]
      exact gn n
    · by_cases zn : n = (i : Int)
      · subst zn
        refine ⟨?_, ?_, ?_⟩
        · rw [am_m_w, if_neg (by omega), am_m_w, if_neg (by omega), am_m_w, if_pos ⟨rfl, rfl⟩]
        · rw [am_m_w, if_neg (by omega), am_m_w, if_pos ⟨rfl, rfl⟩]
        · rw [am_m_w, if_pos ⟨rfl, rfl⟩]
          exact q5
      · rw [am_m_w, if_neg (by omega), am_m_w, if_neg (by omega), am_m_w, if_neg (by omega), am_m_w, if_neg (by omega), am_m_w, if_neg (by omega), am_m_w, if_neg (by omega), am_m_w, if_neg (by omega), am_m_w, if_neg (by omega), am_m_w, if_neg (by omega)]
        exact r1 n z1 (by omega)
theorem n151_69 {d : Nat} {h0 g0 : AH} {nc ns : Nat} {K : AK} (hc : nc = 6 ∧ ns = 4005) (c : CU3 h0 g0 53 7 9 ((fun i => if i = 9 then 53 + 6 else ((fun i => if i = 8 then 53 + 5 else ((fun i => if i = 7 then 53 + 4 else ((fun i => if i = 6 then 53 + 3 else ((fun i => if i = 5 then 53 + 2 else ((fun i => if i = 4 then 100 else ((fun i => if i = 3 then (-1) else ((fun i => if i = 1 then 53 + 1 else (am_df 9) i)) i)) i)) i)) i)) i)) i)) i)) ((6, 20, 401) :: (5, 20, 401) :: (4, 20, 401) :: (3, 20, 401) :: (2, 20, 401) :: (1, 20, 2000) :: [])) (k : ∀ h2, Fr 53 34 h0 h2 → MM h2 53 60 71 79 71 f00 (s_bg f00 0) → am_m h2 71 9 = -1 → S8 h2 79 53 → am_m h2 53 2 = 0 → am_m h2 53 3 = -1 → am_n h2 = 87 → K 0 0 h2) : WP (d + 9 + 1) 151 (69, [(2, 53)], [], g0, nc, ns) K := by
  have w0 : Fr 0 0 h0 g0 := c.1
  have m0 : am_n g0 = 60 := c.2.2.1
  have nh : am_n h0 = 53 := c.2.1
  obtain ⟨-, -, -, ct, cg, ⟨⟨a1, a2, -⟩, ⟨b1, b2, -⟩, ⟨d1, d2, -⟩, ⟨e1, e2, -⟩, ⟨f1, f2, -⟩, ⟨i1, i2, -⟩, -⟩⟩ := c
  have x0 : T9 g0 ((fun i => if i = 9 then 53 + 6 else ((fun i => if i = 8 then 53 + 5 else ((fun i => if i = 7 then 53 + 4 else ((fun i => if i = 6 then 53 + 3 else ((fun i => if i = 5 then 53 + 2 else ((fun i => if i = 4 then 100 else ((fun i => if i = 3 then (-1) else ((fun i => if i = 1 then 53 + 1 else (am_df 9) i)) i)) i)) i)) i)) i)) i)) i)) := ⟨ct, cg, ⟨i1, i2⟩, ⟨f1, f2⟩, ⟨e1, e2⟩, ⟨d1, d2⟩, ⟨b1, b2⟩, ⟨a1, a2⟩⟩
  -- the plan at 60
  refine v151_69 ⟨⟨by omega, by omega⟩, ⟨by omega, by omega, by omega⟩, c127 rfl (by omega) (fun k0 np => okx ?_)⟩
  obtain ⟨v0, p7, n0, zi, b8, zr⟩ := np
  rw [m0] at p7 n0 zi b8 ⊢
  have y0 := x0.ns v0 (by omega)
  refine v151_77 ⟨y0.1, ?_⟩
  have y1 := y0.w (f := 12) (v := 60)
  have q0 : Fr 53 1 k0 (am_w k0 53 12 60) := Fr.rf.w (by decide) (by decide)
  have n1 : am_n (am_w k0 53 12 60) = 71 := n0
  generalize am_w k0 53 12 60 = g1 at y1 q0 n1 ⊢
  refine v151_80 ⟨y1.1, y1.1, ?_⟩
  rw [show am_m g1 53 12 = 60 from (y1.2.1 12).trans (by decide)]
  have y2 := y1.w (f := 13) (v := 60)
  have q1 : Fr 53 1 g1 (am_w g1 53 13 60) := Fr.rf.w (by decide) (by decide)
  have n2 : am_n (am_w g1 53 13 60) = 71 := n1
  generalize am_w g1 53 13 60 = g2 at y2 q1 n2 ⊢
  -- the state at 71
  refine v151_88 ⟨⟨by omega, by omega⟩, ⟨by omega, by omega, by omega⟩, ?_⟩
  rw [n2]
  refine n128 n2 (by decide) (fun k3 c3 => okx ?_)
  have y3 := y2.ns c3.1 (by omega)
  refine v151_97 ⟨y3.1, ?_⟩
  have y4 := y3.w (f := 14) (v := 71)
  have q3 : Fr 53 1 k3 (am_w k3 53 14 71) := Fr.rf.w (by decide) (by decide)
  have n4 : am_n (am_w k3 53 14 71) = 79 := c3.2.2.1
  generalize am_w k3 53 14 71 = g4 at y4 q3 n4 ⊢
  -- the state ahead at 79
  refine v151_100 ⟨⟨by omega, by omega⟩, ⟨by omega, by omega, by omega⟩, ?_⟩
  rw [n4]
  refine n128 n4 (by decide) (fun k5 c5 => okx ?_)
  have y5 := y4.ns c5.1 (by omega)
  refine v151_109 ⟨y5.1, ?_⟩
  have y6 := y5.w (f := 15) (v := 79)
  have q5 : Fr 53 1 k5 (am_w k5 53 15 79) := Fr.rf.w (by decide) (by decide)
  have n6 : am_n (am_w k5 53 15 79) = 87 := c5.2.2.1
  generalize am_w k5 53 15 79 = g6 at y6 q5 n6 ⊢
  have fa : Fr 53 1 k3 g6 := (q3.tr c5.1.e).tr q5
  have fb : Fr 53 1 k0 g6 := ((q0.tr q1).tr c3.1.e).tr fa
  have fall : Fr 53 1 h0 g6 := ((w0.e : Fr 53 1 h0 g0).tr v0.e).tr fb
  have s7 := c3.n2 fa (by decide) (by decide) (by decide)
  have s9 := c5.n2 q5 (by decide) (by decide) (by decide)
  have S71 : S8 g6 71 53 := s8_of s7.1 s7.2.1 s7.2.2.1 (by decide) (by decide) s7.2.2.2
  have S79 : S8 g6 79 53 := s8_of s9.1 s9.2.1 s9.2.2.1 (by decide) (by decide) s9.2.2.2
  have no : ∀ {i : Int} {P : Prop}, 0 ≤ i → i < 0 → P := fun h0 h1 => absurd h1 (by omega)
  have e60 : ∀ i, am_m g6 60 i = am_m k0 60 i := fun i => fb.2.2.2.2 60 (by omega) (by decide) i
  have P60 : P7 g6 60 := p7.fr fb (by omega)
  have mp : MP g6 60 f00 := ⟨P60, (e60 _).trans (zi 0 (by unfold ZI; decide)), (e60 _).trans (zi 2 (by unfold ZI; decide)), (e60 _).trans (zi 6 (by unfold ZI; decide)), (e60 _).trans (zi 9 (by unfold ZI; decide)), fun i h0 h1 => no h0 h1, fun i h0 h1 => no h0 h1, fun i h0 h1 => no h0 h1⟩
  have mb : MB g6 60 f00 := ⟨fun i h0 h1 => no h0 h1, fun i h0 h1 => no h0 h1⟩
  obtain ⟨z1, z2, ⟨z3, z4⟩, ⟨z5, z6⟩, ⟨z7, z8⟩, ⟨z9, z10⟩, ⟨z11, z12⟩, ⟨z13, z14⟩⟩ := y6
  have m9 : M9 g6 53 60 71 79 := ⟨z1, (z2 12).trans (by decide), (z2 14).trans (by decide), (z2 15).trans (by decide), (z2 1).trans (by decide), z3, z4, (z2 5).trans (by decide), z5, z6, (z2 6).trans (by decide), z7, z8, (z2 7).trans (by decide), z9, z10, (z2 8).trans (by decide), z11, z12, (z2 9).trans (by decide), z13, z14, by decide, by omega⟩
  have e14 : am_m g6 53 14 = 71 := (z2 14).trans (by decide)
  refine v151_112 ⟨z1, ?_⟩
  rw [e14]
  refine ⟨S71.1, c131n (y := 0) (lo := -1) m9 S71 mp mb pi_00 pb_00 ((z2 4).trans (by decide)) ((s7.2.1 0).trans (by decide)) (by decide) ((s7.2.1 9).trans (by decide)) (by decide) (fun h2 f2 mm lo2 en => okx (v151_119 ?_))⟩
  have hn2 := f2.1
  refine k h2 ((fall.wide (by decide) (by decide)).tr (f2.wide (by decide) (by decide))) mm lo2 (S79.fr f2 (by decide)) ((f2.2.2.2.2 53 (by omega) (by decide) 2).trans ((z2 2).trans (by decide))) ((f2.2.2.2.2 53 (by omega) (by decide) 3).trans ((z2 3).trans (by decide))) (en.trans n6)
theorem n151 {d : Nat} {h0 : AH} {K : AK} (ha : am_n h0 = 53) (k : ∀ h2, Fr 53 34 h0 h2 → MM h2 53 60 71 79 71 f00 (s_bg f00 0) → am_m h2 71 9 = -1 → S8 h2 79 53 → am_m h2 53 2 = 0 → am_m h2 53 3 = -1 → am_n h2 = 87 → K 0 0 h2) : am_call (d + 10) 151 [(2, 53)] (am_a h0 9 16 (am_df 9)) K := by
  have c0 : CU3 h0 (am_a h0 9 16 (am_df 9)) 53 1 9 (am_df 9) [] := CU3.i0 ha
  refine v151 ⟨by decide, ⟨by decide, by decide, by decide⟩, c0.tt (by decide), ?_⟩
  have c1 := c0.go (f := 1) (tg := 20) (L := 2000) (by decide) (by decide)
  refine v151_13 ⟨c1.2.2.2.1, ?_⟩
  have c2 := c1.set (f := 3) (v := -1) (by decide) (by decide)
  refine v151_18 ⟨c2.2.2.2.1, ?_⟩
  have c3 := c2.set (f := 4) (v := 100) (by decide) (by decide)
  refine v151_24 ⟨⟨by decide, by decide, by decide⟩, c3.tt (by decide), ?_⟩
  have c4 := c3.go (f := 5) (tg := 20) (L := 401) (by decide) (by decide)
  refine v151_33 ⟨⟨by decide, by decide, by decide⟩, c4.tt (by decide), ?_⟩
  have c5 := c4.go (f := 6) (tg := 20) (L := 401) (by decide) (by decide)
  refine v151_42 ⟨⟨by decide, by decide, by decide⟩, c5.tt (by decide), ?_⟩
  have c6 := c5.go (f := 7) (tg := 20) (L := 401) (by decide) (by decide)
  refine v151_51 ⟨⟨by decide, by decide, by decide⟩, c6.tt (by decide), ?_⟩
  have c7 := c6.go (f := 8) (tg := 20) (L := 401) (by decide) (by decide)
  refine v151_60 ⟨⟨by decide, by decide, by decide⟩, c7.tt (by decide), ?_⟩
  have c8 := c7.go (f := 9) (tg := 20) (L := 401) (by decide) (by decide)
  exact n151_69 (d := d) ⟨rfl, rfl⟩ c8 k
