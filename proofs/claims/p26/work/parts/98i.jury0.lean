/-! ===== the class's constructor ===== -/
theorem CU3.nd {h0 h hE : AH} {a m : Int} {T : Nat} {G : Int → Int} {l : List (Int × Nat × Int)} (c : CU3 h0 h a m T G l) (f : Fr 0 1 h hE) (ha : 1 ≤ a) (hm : 0 < m) (ok : okO m l = true) : am_t hE a = T ∧ (∀ i, am_m hE a i = G i) ∧ RWS hE a l ∧ a + m ≤ am_n hE := by
  obtain ⟨fr, na, n, t, g, r⟩ := c
  have hf := f.1
  exact ⟨(f.2.2.2.1 a (by omega)).1.trans t, fun i => (f.2.2.2.2 a (by omega) (by omega) i).trans (g i), RWS.cg (h := h) (m := m) (fun b z1 z2 => ⟨(f.2.2.2.1 b (by omega)).1, (f.2.2.2.1 b (by omega)).2, fun i => f.2.2.2.2 b (by omega) (by omega) i⟩) ok r, by omega⟩
/-- the jury while it is made -/
def T0 (h : AH) (G : Int → Int) : Prop := am_t h 0 = 6 ∧ (∀ i, am_m h 0 i = G i) ∧ am_t h 1 = 21 ∧ am_l h 1 = 2000
theorem T0.ns {h h2 : AH} {G : Int → Int} (x : T0 h G) (f : Fr 0 0 h h2) (hn : 2 ≤ am_n h) : T0 h2 G := ⟨(f.2.2.2.1 0 (by omega)).1.trans x.1, fun i => (f.2.2.2.2 0 (by omega) (by omega) i).trans (x.2.1 i), (f.2.2.2.1 1 (by omega)).1.trans x.2.2.1, (f.2.2.2.1 1 (by omega)).2.trans x.2.2.2⟩
theorem T0.w {h : AH} {G : Int → Int} {f v : Int} (x : T0 h G) : T0 (am_w h 0 f v) (fun i => if i = f then v else G i) := by
  refine ⟨x.1, fun i => ?_, x.2.2⟩
  show _ = if i = f then v else G i
  rw [am_m_w]
  by_cases y : i = f
  · rw [if_pos ⟨rfl, y⟩, if_pos y]
  · rw [if_neg (fun w => y w.2), if_neg y, x.2.1]
theorem p4_of {h : AH} {a : Int} {G : Int → Int} (t : am_t h a = 4) (e : ∀ i, am_m h a i = G i) (r : RWS h a [(9, 20, 400), (8, 20, 400), (7, 20, 12), (6, 20, 12), (5, 20, 12), (4, 20, 12), (3, 20, 12), (2, 20, 12), (1, 20, 4)]) (g : G 6 = a + 1 ∧ G 7 = a + 2 ∧ G 8 = a + 3 ∧ G 9 = a + 4 ∧ G 10 = a + 5 ∧ G 11 = a + 6 ∧ G 12 = a + 7 ∧ G 13 = a + 8 ∧ G 14 = a + 9) (a0 : 0 ≤ a) (hn : a + 10 ≤ am_n h) : P4 h a := by
  obtain ⟨⟨r9, s9, -⟩, ⟨r8, s8, -⟩, ⟨r7, s7, -⟩, ⟨r6, s6, -⟩, ⟨r5, s5, -⟩, ⟨r4, s4, -⟩, ⟨r3, s3, -⟩, ⟨r2, s2, -⟩, ⟨r1, s1, -⟩, -⟩ := r
  obtain ⟨g6, g7, g8, g9, g10, g11, g12, g13, g14⟩ := g
  exact ⟨t, (e _).trans g6, r1, s1, (e _).trans g7, r2, s2, (e _).trans g8, r3, s3, (e _).trans g9, r4, s4, (e _).trans g10, r5, s5, (e _).trans g11, r6, s6, (e _).trans g12, r7, s7, (e _).trans g13, r8, s8, (e _).trans g14, r9, s9, a0, by omega⟩
theorem p3_of {h : AH} {a q : Int} {G : Int → Int} (t : am_t h a = 3) (e : ∀ i, am_m h a i = G i) (r : RWS h a [(8, 20, 400), (7, 20, 4), (6, 20, 12), (5, 20, 12), (4, 20, 12), (3, 20, 12), (2, 20, 12), (1, 20, 12)]) (g : G 5 = q ∧ G 3 = a + 1 ∧ G 4 = a + 2 ∧ G 8 = a + 3 ∧ G 9 = a + 4 ∧ G 10 = a + 5 ∧ G 11 = a + 6 ∧ G 12 = a + 7 ∧ G 13 = a + 8) (a0 : 0 ≤ a) (hn : a + 9 ≤ am_n h) : P3 h a q := by
  obtain ⟨⟨r8, s8, -⟩, ⟨r7, s7, -⟩, ⟨r6, s6, -⟩, ⟨r5, s5, -⟩, ⟨r4, s4, -⟩, ⟨r3, s3, -⟩, ⟨r2, s2, -⟩, ⟨r1, s1, -⟩, -⟩ := r
  obtain ⟨g5, g3, g4, g8, g9, g10, g11, g12, g13⟩ := g
  exact ⟨t, (e _).trans g5, (e _).trans g3, r1, s1, (e _).trans g4, r2, s2, (e _).trans g8, r3, s3, (e _).trans g9, r4, s4, (e _).trans g10, r5, s5, (e _).trans g11, r6, s6, (e _).trans g12, r7, s7, (e _).trans g13, r8, s8, a0, by omega⟩
theorem pi_00 : PI f00 := by
  have z : ∀ b i, b ≠ 8 → f00 b i = 0 := fun b i h => if_neg h
  refine ⟨by rw [z _ _ (by decide)]; decide, by rw [z _ _ (by decide)]; decide, by rw [z _ _ (by decide)]; decide, by rw [z _ _ (by decide)]; decide, fun i h0 h1 => ?_, fun i h0 h1 => ?_, fun i h0 h1 => ?_⟩
  all_goals
    rw [z _ _ (by decide)] at h1
    omega
theorem pb_00 : PB f00 := by
  have z : ∀ b i, b ≠ 8 → f00 b i = 0 := fun b i h => if_neg h
  refine ⟨by decide, fun i h0 h1 => ?_, fun i => Or.inl (z _ _ (by decide)), fun v p _ _ _ _ _ => z _ _ (by decide)⟩
  rw [z _ _ (by decide)] at h1
  omega
theorem si_00 : SI f00 (s_bg f00 0) := by
  have z : ∀ b i, b ≠ 8 → f00 b i = 0 := fun b i h => if_neg h
  refine ⟨by decide, by decide, by decide, fun v h0 h1 => ?_, fun p h0 h1 => ?_, fun i => Or.inl ?_, fun v p _ _ _ _ _ => ?_⟩
  · rw [z _ _ (by decide)] at h1
    omega
  · rw [z _ _ (by decide)] at h1
    omega
  · show f00 10 i = 0
    exact z _ _ (by decide)
  · show f00 10 (12 * v + p) = 0
    exact z _ _ (by decide)
theorem z00 {b i : Int} (h0 : 0 ≤ i) (hb : b = 0 ∨ b = 1 ∨ b = 2 ∨ b = 3) : ¬ i < (0 : Int) := by omega
theorem n101 {d : Nat} {h0 : AH} {K : AK} (ha : am_n h0 = 0) (k : ∀ h2, Fr 0 1 h0 h2 → GC h2 f00 (s_bg f00 0) (fun _ => []) 0 (fun _ => 0) (-1) 2 12 → TX h2 12 → am_n h2 = 53 → K 0 0 h2) : am_call (d + 10) 101 [(2, 0)] (am_a h0 6 10 (am_df 6)) K := by
  have c0 : CU3 h0 (am_a h0 6 10 (am_df 6)) 0 1 6 (am_df 6) [] := CU3.i0 ha
  refine v101 ⟨by decide, ⟨⟨by decide, c0.fr (by decide)⟩, by decide, by decide⟩, c0.tt (by decide), ?_⟩
  have c1 := c0.go (f := 0) (tg := 21) (L := 2000) (by decide) (by decide)
  refine v101_13 ⟨c1.2.2.2.1, ?_⟩
  have c2 := c1.set (f := 2) (v := -1) (by decide) (by decide)
  generalize am_w (am_w (am_a (am_a h0 6 10 (am_df 6)) 21 2000 (fun _ => 0)) 0 0 (am_n (am_a h0 6 10 (am_df 6)))) 0 2 (-1) = g0 at c2 ⊢
  have w0 : Fr 0 0 h0 g0 := c2.1
  have m0 : am_n g0 = 2 := c2.2.2.1
  have x0 : T0 g0 (fun i => if i = 2 then -1 else (fun i => if i = 0 then 0 + 1 else am_df 6 i) i) := ⟨c2.2.2.2.1, c2.2.2.2.2.1, c2.2.2.2.2.2.1.1, c2.2.2.2.2.2.1.2.1⟩
  -- 2
  refine v101_18 ⟨⟨Or.inr (by omega), by decide, by decide⟩, ⟨by omega, by decide, by decide⟩, ?_⟩
  rw [m0]
  refine n84 m0 (by decide) (fun k0 n0 => okx ?_)
  have v0 : Fr 0 0 g0 k0 := n0.1
  have y0 := x0.ns v0 (by omega)
  refine v101_26 ⟨y0.1, ?_⟩
  have x1 := y0.w (f := 3) (v := 2)
  have q0 : Fr 0 1 k0 (am_w k0 0 3 2) := Fr.rf.w (by decide) (by decide)
  have m1 : am_n (am_w k0 0 3 2) = 12 := n0.2.2.1
  have p0 : Fr 0 1 g0 (am_w k0 0 3 2) := (v0.wide (by decide) (by decide)).tr q0
  generalize am_w k0 0 3 2 = g1 at x1 q0 m1 p0 ⊢
  have r0 := q0
  -- 12
  refine v101_29 ⟨⟨Or.inr (by omega), by decide, by decide⟩, ⟨by omega, by decide, by decide⟩, ?_⟩
  rw [m1]
  refine n84 m1 (by decide) (fun k1 n1 => okx ?_)
  have v1 : Fr 0 0 g1 k1 := n1.1
  have y1 := x1.ns v1 (by omega)
  refine v101_37 ⟨y1.1, ?_⟩
  have x2 := y1.w (f := 4) (v := 12)
  have q1 : Fr 0 1 k1 (am_w k1 0 4 12) := Fr.rf.w (by decide) (by decide)
  have m2 : am_n (am_w k1 0 4 12) = 22 := n1.2.2.1
  have p1 : Fr 0 1 g1 (am_w k1 0 4 12) := (v1.wide (by decide) (by decide)).tr q1
  generalize am_w k1 0 4 12 = g2 at x2 q1 m2 p1 ⊢
  have r0 := r0.tr p1
  have r1 := q1
  -- 22
  refine v101_40 ⟨⟨Or.inr (by omega), by decide, by decide⟩, (show am_t (am_a g2 5 7 (am_df 5)) 0 = 6 by rw [am_t_a, if_neg (by omega)]; exact x2.1), ⟨by omega, by decide, by decide⟩, ?_⟩
  rw [m2, (show am_m (am_a g2 5 7 (am_df 5)) 0 0 = 1 by rw [am_m_a, if_neg (by omega)]; exact (x2.2.1 0).trans (by decide))]
  refine n89 m2 (by decide) (fun kb k2 n2 fk kw nk => okx ?_)
  have u2 : Fr 0 0 g2 kb := n2.1
  have v2 : Fr 0 0 g2 k2 := ⟨by have := fk.1; have := u2.1; omega, fk.2.1.trans u2.2.1, fun i => (fk.2.2.1 i).trans (u2.2.2.1 i), fun b hb => ⟨(fk.2.2.2.1 b (by have := u2.1; omega)).1.trans (u2.2.2.2.1 b hb).1, (fk.2.2.2.1 b (by have := u2.1; omega)).2.trans (u2.2.2.2.1 b hb).2⟩, fun b hb z i => (fk.2.2.2.2 b (by have := u2.1; omega) (by omega) i).trans (u2.2.2.2.2 b hb z i)⟩
  have y2 := x2.ns v2 (by omega)
  refine v101_52 ⟨y2.1, ?_⟩
  have x3 := y2.w (f := 5) (v := 22)
  have q2 : Fr 0 1 k2 (am_w k2 0 5 22) := Fr.rf.w (by decide) (by decide)
  have m3 : am_n (am_w k2 0 5 22) = 27 := nk.trans n2.2.2.1
  have p2 : Fr 0 1 g2 (am_w k2 0 5 22) := (v2.wide (by decide) (by decide)).tr q2
  generalize am_w k2 0 5 22 = g3 at x3 q2 m3 p2 ⊢
  have r0 := r0.tr p2
  have r1 := r1.tr p2
  have r2 := q2
  -- 27
  refine v101_55 ⟨⟨Or.inr (by omega), by decide, by decide⟩, (show am_t (am_a g3 2 5 (am_df 2)) 0 = 6 by rw [am_t_a, if_neg (by omega)]; exact x3.1), (show am_t (am_a g3 2 5 (am_df 2)) 0 = 6 by rw [am_t_a, if_neg (by omega)]; exact x3.1), ⟨by omega, by decide, by decide⟩, ?_⟩
  rw [m3, (show am_m (am_a g3 2 5 (am_df 2)) 0 5 = 22 by rw [am_m_a, if_neg (by omega)]; exact (x3.2.1 5).trans (by decide)), (show am_m (am_a g3 2 5 (am_df 2)) 0 4 = 12 by rw [am_m_a, if_neg (by omega)]; exact (x3.2.1 4).trans (by decide))]
  refine n27 m3 (by decide) (fun k3 n3 => okx ?_)
  have v3 : Fr 0 0 g3 k3 := n3.1
  have y3 := x3.ns v3 (by omega)
  refine v101_71 ⟨y3.1, ?_⟩
  have x4 := y3.w (f := 6) (v := 27)
  have q3 : Fr 0 1 k3 (am_w k3 0 6 27) := Fr.rf.w (by decide) (by decide)
  have m4 : am_n (am_w k3 0 6 27) = 30 := n3.2.2.1
  have p3 : Fr 0 1 g3 (am_w k3 0 6 27) := (v3.wide (by decide) (by decide)).tr q3
  generalize am_w k3 0 6 27 = g4 at x4 q3 m4 p3 ⊢
  have r0 := r0.tr p3
  have r1 := r1.tr p3
  have r2 := r2.tr p3
  have r3 := q3
  -- 30
  refine v101_74 ⟨⟨Or.inr (by omega), by decide, by decide⟩, (show am_t (am_a g4 1 7 (am_df 1)) 0 = 6 by rw [am_t_a, if_neg (by omega)]; exact x4.1), (show am_t (am_a g4 1 7 (am_df 1)) 0 = 6 by rw [am_t_a, if_neg (by omega)]; exact x4.1), ⟨by omega, by decide, by decide⟩, ?_⟩
  rw [m4, (show am_m (am_a g4 1 7 (am_df 1)) 0 5 = 22 by rw [am_m_a, if_neg (by omega)]; exact (x4.2.1 5).trans (by decide)), (show am_m (am_a g4 1 7 (am_df 1)) 0 6 = 27 by rw [am_m_a, if_neg (by omega)]; exact (x4.2.1 6).trans (by decide))]
  refine n13 m4 (by decide) (fun k4 n4 => okx ?_)
  have v4 : Fr 0 0 g4 k4 := n4.1
  have y4 := x4.ns v4 (by omega)
  refine v101_90 ⟨y4.1, ?_⟩
  have x5 := y4.w (f := 7) (v := 30)
  have q4 : Fr 0 1 k4 (am_w k4 0 7 30) := Fr.rf.w (by decide) (by decide)
  have m5 : am_n (am_w k4 0 7 30) = 35 := n4.2.2.1
  have p4 : Fr 0 1 g4 (am_w k4 0 7 30) := (v4.wide (by decide) (by decide)).tr q4
  generalize am_w k4 0 7 30 = g5 at x5 q4 m5 p4 ⊢
  have r0 := r0.tr p4
  have r1 := r1.tr p4
  have r2 := r2.tr p4
  have r3 := r3.tr p4
  have r4 := q4
  -- 35
  have b5 : am_m g5 2 4 = 100 := (r0.2.2.2.2 2 (by have := n0.2.2.1; omega) (by decide) 4).trans ((n0.2.2.2.2.1 4).trans (by decide))
  refine v101_93 ⟨⟨Or.inr (by omega), by decide, by decide⟩, (show am_t (am_a g5 3 15 (am_df 3)) 0 = 6 by rw [am_t_a, if_neg (by omega)]; exact x5.1), ⟨by omega, by decide, by decide⟩, ?_⟩
  rw [m5, (show am_m (am_a g5 3 15 (am_df 3)) 0 3 = 2 by rw [am_m_a, if_neg (by omega)]; exact (x5.2.1 3).trans (by decide))]
  refine n46 m5 (by decide) (by decide) ?_ (fun k5 n5 => okx ?_)
  · exact (r0.2.2.2.1 2 (by have := n0.2.2.1; omega)).1.trans n0.2.2.2.1
  have v5 : Fr 0 0 g5 k5 := n5.1
  have y5 := x5.ns v5 (by omega)
  refine v101_105 ⟨y5.1, ?_⟩
  have x6 := y5.w (f := 8) (v := 35)
  have q5 : Fr 0 1 k5 (am_w k5 0 8 35) := Fr.rf.w (by decide) (by decide)
  have m6 : am_n (am_w k5 0 8 35) = 44 := n5.2.2.1
  have p5 : Fr 0 1 g5 (am_w k5 0 8 35) := (v5.wide (by decide) (by decide)).tr q5
  generalize am_w k5 0 8 35 = g6 at x6 q5 m6 p5 ⊢
  have r0 := r0.tr p5
  have r1 := r1.tr p5
  have r2 := r2.tr p5
  have r3 := r3.tr p5
  have r4 := r4.tr p5
  have r5 := q5
  -- 44
  have b6 : am_m g6 2 4 = 100 := (r0.2.2.2.2 2 (by have := n0.2.2.1; omega) (by decide) 4).trans ((n0.2.2.2.2.1 4).trans (by decide))
  refine v101_108 ⟨⟨Or.inr (by omega), by decide, by decide⟩, (show am_t (am_a g6 3 15 (am_df 3)) 0 = 6 by rw [am_t_a, if_neg (by omega)]; exact x6.1), ⟨by omega, by decide, by decide⟩, ?_⟩
  rw [m6, (show am_m (am_a g6 3 15 (am_df 3)) 0 3 = 2 by rw [am_m_a, if_neg (by omega)]; exact (x6.2.1 3).trans (by decide))]
  refine n46 m6 (by decide) (by decide) ?_ (fun k6 n6 => okx ?_)
  · exact (r0.2.2.2.1 2 (by have := n0.2.2.1; omega)).1.trans n0.2.2.2.1
  have v6 : Fr 0 0 g6 k6 := n6.1
  have y6 := x6.ns v6 (by omega)
  refine v101_120 ⟨y6.1, ?_⟩
  have x7 := y6.w (f := 9) (v := 44)
  have q6 : Fr 0 1 k6 (am_w k6 0 9 44) := Fr.rf.w (by decide) (by decide)
  have m7 : am_n (am_w k6 0 9 44) = 53 := n6.2.2.1
  have p6 : Fr 0 1 g6 (am_w k6 0 9 44) := (v6.wide (by decide) (by decide)).tr q6
  generalize am_w k6 0 9 44 = g7 at x7 q6 m7 p6 ⊢
  have r0 := r0.tr p6
  have r1 := r1.tr p6
  have r2 := r2.tr p6
  have r3 := r3.tr p6
  have r4 := r4.tr p6
  have r5 := r5.tr p6
  have r6 := q6
  refine v101_123 ?_
  have w7 : Fr 0 1 h0 g7 := ((((((((w0.wide (by decide) (by decide) : Fr 0 1 h0 g0).tr p0).tr p1).tr p2).tr p3).tr p4).tr p5).tr p6)
  have e0 := n0.nd r0 (by decide) (by decide) (by decide)
  have e1 := n1.nd r1 (by decide) (by decide) (by decide)
  have e3 := n3.nd r3 (by decide) (by decide) (by decide)
  have e4 := n4.nd r4 (by decide) (by decide) (by decide)
  have e5 := n5.nd r5 (by decide) (by decide) (by decide)
  have e6 := n6.nd r6 (by decide) (by decide) (by decide)
  have q0' := p4_of e0.1 e0.2.1 e0.2.2.1 (by decide) (by decide) e0.2.2.2
  have q1' := p4_of e1.1 e1.2.1 e1.2.2.1 (by decide) (by decide) e1.2.2.2
  have q5' : P3 g7 35 2 := p3_of e5.1 e5.2.1 e5.2.2.1 ⟨rfl, rfl, rfl, rfl, rfl, rfl, rfl, rfl, rfl⟩ (by decide) e5.2.2.2
  have q6' : P3 g7 44 2 := p3_of e6.1 e6.2.1 e6.2.2.1 ⟨rfl, rfl, rfl, rfl, rfl, rfl, rfl, rfl, rfl⟩ (by decide) e6.2.2.2
  -- the tokens
  have nb := n2.2.2.1
  have nk2 := nk.trans nb
  obtain ⟨-, -, -, tk, gk, ⟨⟨ra1, ra2, -⟩, ⟨rb1, rb2, -⟩, ⟨rc1, rc2, -⟩, ⟨rd1, rd2, -⟩, -⟩⟩ := n2
  have ft : ∀ b, b < 27 → am_t g7 b = am_t kb b ∧ am_l g7 b = am_l kb b := fun b hb => ⟨(r2.2.2.2.1 b (by omega)).1.trans (fk.2.2.2.1 b (by omega)).1, (r2.2.2.2.1 b (by omega)).2.trans (fk.2.2.2.1 b (by omega)).2⟩
  have f22 : ∀ i, am_m g7 22 i = am_m kb 22 i := fun i => (r2.2.2.2.2 22 (by omega) (by decide) i).trans (fk.2.2.2.2 22 (by omega) (by decide) i)
  have kw7 : ∀ i, 0 ≤ i → i < 22 → am_m g7 26 i = s_kw i := fun i h0 h1 => by
    have := kw i.toNat (by omega)
    rw [show ((i.toNat : Nat) : Int) = i by omega] at this
    exact (r2.2.2.2.2 26 (by omega) (by decide) i).trans this
  obtain ⟨⟨s1, s2, -⟩, ⟨s3, s4, -⟩, -⟩ := e3.2.2.1
  obtain ⟨⟨z1, z2, -⟩, ⟨z3, z4, -⟩, ⟨z5, z6, -⟩, ⟨z7, z8, -⟩, -⟩ := e4.2.2.1
  have no : ∀ {i : Int} {P : Prop}, 0 ≤ i → i < 0 → P := fun h0 h1 => absurd h1 (by omega)
  have cc : CC g7 35 2 f00 (s_bg f00 0) := by
    refine ⟨q5', ⟨q0', (e0.2.1 0).trans (by decide), (e0.2.1 1).trans (by decide), (e0.2.1 2).trans (by decide), (e0.2.1 3).trans (by decide), fun i h0 h1 => no h0 h1, fun i h0 h1 => no h0 h1, fun i h0 h1 => no h0 h1⟩, ⟨(e5.2.1 0).trans rfl, (e5.2.1 1).trans b5, (e5.2.1 6).trans rfl, (e5.2.1 7).trans rfl, fun i h0 h1 => no h0 h1, fun i h0 h1 => no h0 h1⟩, pi_00, si_00, Or.inl (by decide)⟩
  refine k g7 w7 ⟨x7.1, (x7.2.1 0).trans (by decide), (x7.2.1 1).trans (by decide), (x7.2.1 2).trans (by decide), (x7.2.1 3).trans (by decide), (x7.2.1 4).trans (by decide), (x7.2.1 5).trans (by decide), (x7.2.1 6).trans (by decide), (x7.2.1 7).trans (by decide), (x7.2.1 8).trans (by decide), (x7.2.1 9).trans (by decide), x7.2.2.1, x7.2.2.2, cc, (e5.2.1 2).trans rfl, ⟨by rw [e0.2.1 5]; decide, fun i h0 h1 => no h0 h1⟩, ⟨2, q6'⟩, Or.inl ⟨rfl, rfl⟩, fun p h0 h1 => no h0 h1, fun p h0 h1 => no h0 h1, by omega, ⟨Int.le_refl _, by decide⟩, fun i h0 h1 => no h0 h1⟩ ?_ m7
  exact ⟨(ft 22 (by decide)).1.trans tk, (f22 0).trans ((gk 0).trans (by decide)), (f22 1).trans ((gk 1).trans (by decide)), (f22 2).trans ((gk 2).trans (by decide)), (f22 3).trans ((gk 3).trans (by decide)), (f22 4).trans ((gk 4).trans (by decide)), ⟨(ft 23 (by decide)).1.trans rd1, (ft 23 (by decide)).2.trans rd2⟩, ⟨(ft 24 (by decide)).1.trans rc1, (ft 24 (by decide)).2.trans rc2⟩, ⟨(ft 25 (by decide)).1.trans rb1, (ft 25 (by decide)).2.trans rb2⟩, ⟨(ft 26 (by decide)).1.trans ra1, (ft 26 (by decide)).2.trans ra2⟩, kw7, e3.1, (e3.2.1 0).trans (by decide), (e3.2.1 1).trans (by decide), (e3.2.1 3).trans (by decide), ⟨s3, s4⟩, ⟨s1, s2⟩, e4.1, (e4.2.1 1).trans (by decide), (e4.2.1 2).trans (by decide), (e4.2.1 3).trans (by decide), (e4.2.1 4).trans (by decide), (e4.2.1 5).trans (by decide), (e4.2.1 6).trans (by decide), ⟨z7, z8⟩, ⟨z5, z6⟩, ⟨z3, z4⟩, ⟨z1, z2⟩, q1', Or.inr rfl, by omega⟩
