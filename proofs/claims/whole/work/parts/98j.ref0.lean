/-! ===== the reference's constructor ===== -/
theorem Fr.e {h h2 : AH} {lo n : Int} (x : Fr 0 0 h h2) : Fr lo n h h2 := ⟨x.1, x.2.1, x.2.2.1, x.2.2.2.1, fun b hb _ i => x.2.2.2.2 b hb (by omega) i⟩
theorem CU3.n2 {h0 h hE : AH} {a m : Int} {T : Nat} {G : Int → Int} {l : List (Int × Nat × Int)} (c : CU3 h0 h a m T G l) (f : Fr 53 1 h hE) (ha : 54 ≤ a) (hm : 0 < m) (ok : okO m l = true) : am_t hE a = T ∧ (∀ i, am_m hE a i = G i) ∧ RWS hE a l ∧ a + m ≤ am_n hE := by
  obtain ⟨fr, na, n, t, g, r⟩ := c
  have hf := f.1
  exact ⟨(f.2.2.2.1 a (by omega)).1.trans t, fun i => (f.2.2.2.2 a (by omega) (by omega) i).trans (g i), RWS.cg (h := h) (m := m) (fun b z1 z2 => ⟨(f.2.2.2.1 b (by omega)).1, (f.2.2.2.1 b (by omega)).2, fun i => f.2.2.2.2 b (by omega) (by omega) i⟩) ok r, by omega⟩
def T9 (h : AH) (G : Int → Int) : Prop := am_t h 53 = 9 ∧ (∀ i, am_m h 53 i = G i) ∧ (am_t h 54 = 20 ∧ am_l h 54 = 2000) ∧ (am_t h 55 = 20 ∧ am_l h 55 = 401) ∧ (am_t h 56 = 20 ∧ am_l h 56 = 401) ∧ (am_t h 57 = 20 ∧ am_l h 57 = 401) ∧ (am_t h 58 = 20 ∧ am_l h 58 = 401) ∧ (am_t h 59 = 20 ∧ am_l h 59 = 401)
theorem T9.ns {h h2 : AH} {G : Int → Int} (x : T9 h G) (f : Fr 0 0 h h2) (hn : 60 ≤ am_n h) : T9 h2 G := by
  obtain ⟨x1, x2, x3, x4, x5, x6, x7, x8⟩ := x
  have e : ∀ b, b < 60 → ∀ {u v}, am_t h b = u ∧ am_l h b = v → am_t h2 b = u ∧ am_l h2 b = v := fun b hb u v y => ⟨(f.2.2.2.1 b (by omega)).1.trans y.1, (f.2.2.2.1 b (by omega)).2.trans y.2⟩
  exact ⟨(f.2.2.2.1 53 (by omega)).1.trans x1, fun i => (f.2.2.2.2 53 (by omega) (by omega) i).trans (x2 i), e 54 (by decide) x3, e 55 (by decide) x4, e 56 (by decide) x5, e 57 (by decide) x6, e 58 (by decide) x7, e 59 (by decide) x8⟩
theorem T9.w {h : AH} {G : Int → Int} {f v : Int} (x : T9 h G) : T9 (am_w h 53 f v) (fun i => if i = f then v else G i) := by
  refine ⟨x.1, fun i => ?_, x.2.2⟩
  show _ = if i = f then v else G i
  rw [am_m_w]
  by_cases y : i = f
  · rw [if_pos ⟨rfl, y⟩, if_pos y]
  · rw [if_neg (fun w => y w.2), if_neg y, x.2.1]
theorem s8_of {h : AH} {a u : Int} {G : Int → Int} (t : am_t h a = 8) (e : ∀ i, am_m h a i = G i) (r : RWS h a [(7, 20, 400), (6, 20, 12), (5, 20, 12), (4, 20, 12), (3, 20, 12), (2, 20, 12), (1, 20, 12)]) (g : G 11 = u ∧ G 3 = a + 1 ∧ G 4 = a + 2 ∧ G 5 = a + 3 ∧ G 6 = a + 4 ∧ G 7 = a + 5 ∧ G 8 = a + 6 ∧ G 10 = a + 7) (a0 : 0 ≤ a) (hn : a + 8 ≤ am_n h) : S8 h a u := by
  obtain ⟨⟨r7, s7, -⟩, ⟨r6, s6, -⟩, ⟨r5, s5, -⟩, ⟨r4, s4, -⟩, ⟨r3, s3, -⟩, ⟨r2, s2, -⟩, ⟨r1, s1, -⟩, -⟩ := r
  obtain ⟨g11, g3, g4, g5, g6, g7, g8, g10⟩ := g
  exact ⟨t, (e _).trans g11, (e _).trans g3, r1, s1, (e _).trans g4, r2, s2, (e _).trans g5, r3, s3, (e _).trans g6, r4, s4, (e _).trans g7, r5, s5, (e _).trans g8, r6, s6, (e _).trans g10, r7, s7, a0, by omega⟩
theorem n151_69 {d : Nat} {h0 g0 : AH} {nc ns : Nat} {K : AK} (hc : nc = 6 ∧ ns = 4005) (c : CU3 h0 g0 53 7 9 ((fun i => if i = 9 then 53 + 6 else ((fun i => if i = 8 then 53 + 5 else ((fun i => if i = 7 then 53 + 4 else ((fun i => if i = 6 then 53 + 3 else ((fun i => if i = 5 then 53 + 2 else ((fun i => if i = 4 then 100 else ((fun i => if i = 3 then (-1) else ((fun i => if i = 1 then 53 + 1 else (am_df 9) i)) i)) i)) i)) i)) i)) i)) i)) ((6, 20, 401) :: (5, 20, 401) :: (4, 20, 401) :: (3, 20, 401) :: (2, 20, 401) :: (1, 20, 2000) :: [])) (k : ∀ h2, Fr 53 34 h0 h2 → MM h2 53 60 71 79 71 f00 (s_bg f00 0) → am_m h2 71 9 = -1 → S8 h2 79 53 → am_m h2 53 2 = 0 → am_m h2 53 3 = -1 → am_n h2 = 87 → K 0 0 h2) : WP (d + 9 + 1) 151 (69, [(2, 53)], [], g0, nc, ns) K := by
  have w0 : Fr 0 0 h0 g0 := c.1
  have m0 : am_n g0 = 60 := c.2.2.1
  have nh : am_n h0 = 53 := c.2.1
  obtain ⟨-, -, -, ct, cg, ⟨⟨a1, a2, -⟩, ⟨b1, b2, -⟩, ⟨d1, d2, -⟩, ⟨e1, e2, -⟩, ⟨f1, f2, -⟩, ⟨i1, i2, -⟩, -⟩⟩ := c
  have x0 : T9 g0 ((fun i => if i = 9 then 53 + 6 else ((fun i => if i = 8 then 53 + 5 else ((fun i => if i = 7 then 53 + 4 else ((fun i => if i = 6 then 53 + 3 else ((fun i => if i = 5 then 53 + 2 else ((fun i => if i = 4 then 100 else ((fun i => if i = 3 then (-1) else ((fun i => if i = 1 then 53 + 1 else (am_df 9) i)) i)) i)) i)) i)) i)) i)) i)) := ⟨ct, cg, ⟨i1, i2⟩, ⟨f1, f2⟩, ⟨e1, e2⟩, ⟨d1, d2⟩, ⟨b1, b2⟩, ⟨a1, a2⟩⟩
  -- the plan at 60
  refine v151_69 ⟨⟨by omega, by omega⟩, ⟨by omega, by omega, by omega⟩, c127 rfl (by omega) (fun k0 np => okx ?_)⟩
  obtain ⟨v0, p7, n0, zi, b8, zr⟩ := np
  rw [m0] at p7 n0 zi b8 ⊢
  have y0 := x0.ns v0 (by omega)
  refine v151_77 ⟨y0.1, ?_⟩
  have y1 := y0.w (f := 12) (v := 60)
  have q0 : Fr 53 1 k0 (am_w k0 53 12 60) := Fr.rf.w (by decide) (by decide)
  have n1 : am_n (am_w k0 53 12 60) = 71 := n0
  generalize am_w k0 53 12 60 = g1 at y1 q0 n1 ⊢
  refine v151_80 ⟨y1.1, y1.1, ?_⟩
  rw [show am_m g1 53 12 = 60 from (y1.2.1 12).trans (by decide)]
  have y2 := y1.w (f := 13) (v := 60)
  have q1 : Fr 53 1 g1 (am_w g1 53 13 60) := Fr.rf.w (by decide) (by decide)
  have n2 : am_n (am_w g1 53 13 60) = 71 := n1
  generalize am_w g1 53 13 60 = g2 at y2 q1 n2 ⊢
  -- the state at 71
  refine v151_88 ⟨⟨by omega, by omega⟩, ⟨by omega, by omega, by omega⟩, ?_⟩
  rw [n2]
  refine n128 n2 (by decide) (fun k3 c3 => okx ?_)
  have y3 := y2.ns c3.1 (by omega)
  refine v151_97 ⟨y3.1, ?_⟩
  have y4 := y3.w (f := 14) (v := 71)
  have q3 : Fr 53 1 k3 (am_w k3 53 14 71) := Fr.rf.w (by decide) (by decide)
  have n4 : am_n (am_w k3 53 14 71) = 79 := c3.2.2.1
  generalize am_w k3 53 14 71 = g4 at y4 q3 n4 ⊢
  -- the state ahead at 79
  refine v151_100 ⟨⟨by omega, by omega⟩, ⟨by omega, by omega, by omega⟩, ?_⟩
  rw [n4]
  refine n128 n4 (by decide) (fun k5 c5 => okx ?_)
  have y5 := y4.ns c5.1 (by omega)
  refine v151_109 ⟨y5.1, ?_⟩
  have y6 := y5.w (f := 15) (v := 79)
  have q5 : Fr 53 1 k5 (am_w k5 53 15 79) := Fr.rf.w (by decide) (by decide)
  have n6 : am_n (am_w k5 53 15 79) = 87 := c5.2.2.1
  generalize am_w k5 53 15 79 = g6 at y6 q5 n6 ⊢
  have fa : Fr 53 1 k3 g6 := (q3.tr c5.1.e).tr q5
  have fb : Fr 53 1 k0 g6 := ((q0.tr q1).tr c3.1.e).tr fa
  have fall : Fr 53 1 h0 g6 := ((w0.e : Fr 53 1 h0 g0).tr v0.e).tr fb
  have s7 := c3.n2 fa (by decide) (by decide) (by decide)
  have s9 := c5.n2 q5 (by decide) (by decide) (by decide)
  have S71 : S8 g6 71 53 := s8_of s7.1 s7.2.1 s7.2.2.1 (by decide) (by decide) s7.2.2.2
  have S79 : S8 g6 79 53 := s8_of s9.1 s9.2.1 s9.2.2.1 (by decide) (by decide) s9.2.2.2
  have no : ∀ {i : Int} {P : Prop}, 0 ≤ i → i < 0 → P := fun h0 h1 => absurd h1 (by omega)
  have e60 : ∀ i, am_m g6 60 i = am_m k0 60 i := fun i => fb.2.2.2.2 60 (by omega) (by decide) i
  have P60 : P7 g6 60 := p7.fr fb (by omega)
  have mp : MP g6 60 f00 := ⟨P60, (e60 _).trans (zi 0 (by unfold ZI; decide)), (e60 _).trans (zi 2 (by unfold ZI; decide)), (e60 _).trans (zi 6 (by unfold ZI; decide)), (e60 _).trans (zi 9 (by unfold ZI; decide)), fun i h0 h1 => no h0 h1, fun i h0 h1 => no h0 h1, fun i h0 h1 => no h0 h1⟩
  have mb : MB g6 60 f00 := ⟨fun i h0 h1 => no h0 h1, fun i h0 h1 => no h0 h1⟩
  obtain ⟨z1, z2, ⟨z3, z4⟩, ⟨z5, z6⟩, ⟨z7, z8⟩, ⟨z9, z10⟩, ⟨z11, z12⟩, ⟨z13, z14⟩⟩ := y6
  have m9 : M9 g6 53 60 71 79 := ⟨z1, (z2 12).trans (by decide), (z2 14).trans (by decide), (z2 15).trans (by decide), (z2 1).trans (by decide), z3, z4, (z2 5).trans (by decide), z5, z6, (z2 6).trans (by decide), z7, z8, (z2 7).trans (by decide), z9, z10, (z2 8).trans (by decide), z11, z12, (z2 9).trans (by decide), z13, z14, by decide, by omega⟩
  have e14 : am_m g6 53 14 = 71 := (z2 14).trans (by decide)
  refine v151_112 ⟨z1, ?_⟩
  rw [e14]
  refine ⟨S71.1, c131 (y := 0) (lo := -1) m9 S71 mp mb pi_00 pb_00 ((z2 4).trans (by decide)) ((s7.2.1 0).trans (by decide)) (by decide) ((s7.2.1 9).trans (by decide)) (by decide) (fun h2 f2 mm lo2 => okx (v151_119 ?_))⟩
  have hn2 := f2.1
  refine k h2 ((fall.wide (by decide) (by decide)).tr (f2.wide (by decide) (by decide))) mm lo2 (S79.fr f2 (by decide)) ((f2.2.2.2.2 53 (by omega) (by decide) 2).trans ((z2 2).trans (by decide))) ((f2.2.2.2.2 53 (by omega) (by decide) 3).trans ((z2 3).trans (by decide))) ?_
  sorry
theorem n151 {d : Nat} {h0 : AH} {K : AK} (ha : am_n h0 = 53) (k : ∀ h2, Fr 53 34 h0 h2 → MM h2 53 60 71 79 71 f00 (s_bg f00 0) → am_m h2 71 9 = -1 → S8 h2 79 53 → am_m h2 53 2 = 0 → am_m h2 53 3 = -1 → am_n h2 = 87 → K 0 0 h2) : am_call (d + 10) 151 [(2, 53)] (am_a h0 9 16 (am_df 9)) K := by
  have c0 : CU3 h0 (am_a h0 9 16 (am_df 9)) 53 1 9 (am_df 9) [] := CU3.i0 ha
  refine v151 ⟨by decide, ⟨by decide, by decide, by decide⟩, c0.tt (by decide), ?_⟩
  have c1 := c0.go (f := 1) (tg := 20) (L := 2000) (by decide) (by decide)
  refine v151_13 ⟨c1.2.2.2.1, ?_⟩
  have c2 := c1.set (f := 3) (v := -1) (by decide) (by decide)
  refine v151_18 ⟨c2.2.2.2.1, ?_⟩
  have c3 := c2.set (f := 4) (v := 100) (by decide) (by decide)
  refine v151_24 ⟨⟨by decide, by decide, by decide⟩, c3.tt (by decide), ?_⟩
  have c4 := c3.go (f := 5) (tg := 20) (L := 401) (by decide) (by decide)
  refine v151_33 ⟨⟨by decide, by decide, by decide⟩, c4.tt (by decide), ?_⟩
  have c5 := c4.go (f := 6) (tg := 20) (L := 401) (by decide) (by decide)
  refine v151_42 ⟨⟨by decide, by decide, by decide⟩, c5.tt (by decide), ?_⟩
  have c6 := c5.go (f := 7) (tg := 20) (L := 401) (by decide) (by decide)
  refine v151_51 ⟨⟨by decide, by decide, by decide⟩, c6.tt (by decide), ?_⟩
  have c7 := c6.go (f := 8) (tg := 20) (L := 401) (by decide) (by decide)
  refine v151_60 ⟨⟨by decide, by decide, by decide⟩, c7.tt (by decide), ?_⟩
  have c8 := c7.go (f := 9) (tg := 20) (L := 401) (by decide) (by decide)
  exact n151_69 (d := d) ⟨rfl, rfl⟩ c8 k
