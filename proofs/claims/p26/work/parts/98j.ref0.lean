/-! ===== the reference's constructor ===== -/
theorem Fr.e {h h2 : AH} {lo n : Int} (x : Fr 0 0 h h2) : Fr lo n h h2 := ⟨x.1, x.2.1, x.2.2.1, x.2.2.2.1, fun b hb _ i => x.2.2.2.2 b hb (by omega) i⟩
theorem CU3.n2 {h0 h hE : AH} {a m : Int} {T : Nat} {G : Int → Int} {l : List (Int × Nat × Int)} (c : CU3 h0 h a m T G l) (f : Fr 53 1 h hE) (ha : 54 ≤ a) (hm : 0 < m) (ok : okO m l = true) : am_t hE a = T ∧ (∀ i, am_m hE a i = G i) ∧ RWS hE a l ∧ a + m ≤ am_n hE := by
  obtain ⟨fr, na, n, t, g, r⟩ := c
  have hf := f.1
  exact ⟨(f.2.2.2.1 a (by omega)).1.trans t, fun i => (f.2.2.2.2 a (by omega) (by omega) i).trans (g i), RWS.cg (h := h) (m := m) (fun b z1 z2 => ⟨(f.2.2.2.1 b (by omega)).1, (f.2.2.2.1 b (by omega)).2, fun i => f.2.2.2.2 b (by omega) (by omega) i⟩) ok r, by omega⟩
def T9 (h : AH) (G : Int → Int) : Prop := am_t h 53 = 9 ∧ (∀ i, am_m h 53 i = G i) ∧ (am_t h 54 = 20 ∧ am_l h 54 = 2000) ∧ (am_t h 55 = 20 ∧ am_l h 55 = 401) ∧ (am_t h 56 = 20 ∧ am_l h 56 = 401) ∧ (am_t h 57 = 20 ∧ am_l h 57 = 401) ∧ (am_t h 58 = 20 ∧ am_l h 58 = 401) ∧ (am_t h 59 = 20 ∧ am_l h 59 = 401)
theorem T9.ns {h h2 : AH} {G : Int → Int} (x : T9 h G) (f : Fr 0 0 h h2) (hn : 60 ≤ am_n h) : T9 h2 G := by
  obtain ⟨x1, x2, x3, x4, x5, x6, x7, x8⟩ := x
  have e : ∀ b, b < 60 → ∀ {u v}, am_t h b = u ∧ am_l h b = v → am_t h2 b = u ∧ am_l h2 b = v := fun b hb u v y => ⟨(f.2.2.2.1 b (by omega)).1.trans y.1, (f.2.2.2.1 b (by omega)).2.trans y.2⟩
  exact ⟨(f.2.2.2.1 53 (by omega)).1.trans x1, fun i => (f.2.2.2.2 53 (by omega) (by omega) i).trans (x2 i), e 54 (by decide) x3, e 55 (by decide) x4, e 56 (by decide) x5, e 57 (by decide) x6, e 58 (by decide) x7, e 59 (by decide) x8⟩
theorem T9.w {h : AH} {G : Int → Int} {f v : Int} (x : T9 h G) : T9 (am_w h 53 f v) (fun i => if i = f then v else G i) := by
  refine ⟨x.1, fun i => ?_, x.2.2⟩
  show _ = if i = f then v else G i
  rw [am_m_w]
  by_cases y : i = f
  · rw [if_pos ⟨rfl, y⟩, if_pos y]
  · rw [if_neg (fun w => y w.2), if_neg y, x.2.1]
theorem s8_of {h : AH} {a u : Int} {G : Int → Int} (t : am_t h a = 8) (e : ∀ i, am_m h a i = G i) (r : RWS h a [(7, 20, 400), (6, 20, 12), (5, 20, 12), (4, 20, 12), (3, 20, 12), (2, 20, 12), (1, 20, 12)]) (g : G 11 = u ∧ G 3 = a + 1 ∧ G 4 = a + 2 ∧ G 5 = a + 3 ∧ G 6 = a + 4 ∧ G 7 = a + 5 ∧ G 8 = a + 6 ∧ G 10 = a + 7) (a0 : 0 ≤ a) (hn : a + 8 ≤ am_n h) : S8 h a u := by
  obtain ⟨⟨r7, s7, -⟩, ⟨r6, s6, -⟩, ⟨r5, s5, -⟩, ⟨r4, s4, -⟩, ⟨r3, s3, -⟩, ⟨r2, s2, -⟩, ⟨r1, s1, -⟩, -⟩ := r
  obtain ⟨g11, g3, g4, g5, g6, g7, g8, g10⟩ := g
  exact ⟨t, (e _).trans g11, (e _).trans g3, r1, s1, (e _).trans g4, r2, s2, (e _).trans g5, r3, s3, (e _).trans g6, r4, s4, (e _).trans g7, r5, s5, (e _).trans g8, r6, s6, (e _).trans g10, r7, s7, a0, by omega⟩