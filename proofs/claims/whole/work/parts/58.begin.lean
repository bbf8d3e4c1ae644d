/-! ===== copying a state of the reference; beginning ===== -/
theorem am_m_cp {h : AH} {a i b j n q k : Int} : am_m (am_cp h a i b j n) q k = if q = b ∧ j ≤ k ∧ k < j + n then am_m h a (i + (k - j)) else am_m h q k := rfl
theorem Fr.cp {lo n a i b j m : Int} {h h1 : AH} (x : Fr lo n h h1) (h2 : lo ≤ b) (h3 : b < lo + n) : Fr lo n h (am_cp h1 a i b j m) := by
  obtain ⟨a1, a2, a3, a4, a5⟩ := x
  refine ⟨a1, a2, a3, a4, fun q hq hn k => ?_⟩
  rw [am_m_cp, if_neg (by omega)]
  exact a5 q hq hn k
theorem S8.cp {h : AH} {a u x i y j n : Int} (s : S8 h a u) (hy : y ≠ a) : S8 (am_cp h x i y j n) a u := by
  exact ⟨s.t, by rw [am_m_cp, if_neg (by omega)]; exact s.f11, by rw [am_m_cp, if_neg (by omega)]; exact s.f3, s.t1, s.l1, by rw [am_m_cp, if_neg (by omega)]; exact s.f4, s.t2, s.l2, by rw [am_m_cp, if_neg (by omega)]; exact s.f5, s.t3, s.l3, by rw [am_m_cp, if_neg (by omega)]; exact s.f6, s.t4, s.l4, by rw [am_m_cp, if_neg (by omega)]; exact s.f7, s.t5, s.l5, by rw [am_m_cp, if_neg (by omega)]; exact s.f8, s.t6, s.l6, by rw [am_m_cp, if_neg (by omega)]; exact s.f10, s.t7, s.l7, s.p, s.b⟩
theorem c129 {d : Nat} {h : AH} {b x y : Int} {K : AK} (t1 : am_t h x = 20) (t2 : am_t h y = 20) (hn : x ≠ y) (l1 : am_l h x = 12) (l2 : am_l h y = 12) (k : K 0 0 (am_cp h x 0 y 0 12)) : am_call d 129 [(2, b), (2, x), (2, y)] h K := by
  refine v129 ?_
  rw [t1, t2, l1, l2]
  exact ⟨⟨by decide, by decide⟩, ⟨rfl, rfl, hn, by decide, by decide, by decide, by decide, by decide⟩, k⟩
theorem c130 {d : Nat} {h : AH} {u q s e b b2 : Int} {pp ss : TT} {K : AK} (c : MM h u q s e b2 pp ss) (x0 : S8 h b u) (ap : b + 8 ≤ b2 ∨ b2 + 8 ≤ b) (au : u + 7 ≤ b) (aq : q + 11 ≤ b ∨ b + 8 ≤ q) (k : ∀ h2, Fr b 8 h h2 → MM h2 u q s e b pp ss → am_m h2 b 9 = -1 → K 0 b h2) : am_call (d + 1) 130 [(2, b), (2, b2)] h K := by
  have bq := c.B.b
  have pq := c.B.p
  have np := c.I.np
  have nv := c.I.nv
  refine v130 ⟨c.B.t, x0.t, ?_⟩
  rw [c.yr]
  have f0 : Fr b 8 h h := Fr.rf
  have x1 := x0.w (b := b) (i := 0) (v := ss 0 0) (by omega)
  have f1 := f0.w (a := b) (i := 0) (v := ss 0 0) (by omega) (by omega)
  have c1 := c.fr f1 (by omega) (by omega) aq
  refine v130_8 ?_
  simp only [c1.B.t, x1.t, c1.pot, true_and]
  have x2 := x1.w (b := b) (i := 1) (v := ss 2 0) (by omega)
  have f2 := f1.w (a := b) (i := 1) (v := ss 2 0) (by omega) (by omega)
  have c2 := c.fr f2 (by omega) (by omega) aq
  refine v130_16 ?_
  simp only [c2.B.t, x2.t, c2.pd, true_and]
  have x3 := x2.w (b := b) (i := 2) (v := ss 3 0) (by omega)
  have f3 := f2.w (a := b) (i := 2) (v := ss 3 0) (by omega) (by omega)
  have c3 := c.fr f3 (by omega) (by omega) aq
  refine v130_24 ⟨x3.t, ?_⟩
  have x4 := x3.w (b := b) (i := 9) (v := -1) (by omega)
  have f4 := f3.w (a := b) (i := 9) (v := -1) (by omega) (by omega)
  generalize hg : am_w (am_w (am_w (am_w h b 0 (ss 0 0)) b 1 (ss 2 0)) b 2 (ss 3 0)) b 9 (-1) = g at x4 f4 ⊢
  have g0 : am_m g b 0 = ss 0 0 ∧ am_m g b 1 = ss 2 0 ∧ am_m g b 2 = ss 3 0 ∧ am_m g b 9 = -1 := by
    subst hg
    simp only [am_m_w]
    simp
  have rd : ∀ h1, Fr b 8 h h1 → ∀ n, b2 ≤ n → n < b2 + 8 → ∀ m, am_m h1 n m = am_m h n m := fun h1 f n z1 z2 m => f.2.2.2.2 n (by omega) (by omega) m
  have y4 := c.B.fr f4 (by omega)
  have e4 : ∀ n, am_m g b n = am_m g b n := fun _ => rfl
  refine v130_29 ?_
  simp only [x4.t, x4.f11, x4.f3, x4.t1, x4.l1, x4.f4, x4.t2, x4.l2, x4.f5, x4.t3, x4.l3, x4.f6, x4.t4, x4.l4, x4.f7, x4.t5, x4.l5, x4.f8, x4.t6, x4.l6, x4.f10, x4.t7, x4.l7, y4.t, y4.f11, y4.f3, y4.t1, y4.l1, y4.f4, y4.t2, y4.l2, y4.f5, y4.t3, y4.l3, y4.f6, y4.t4, y4.l4, y4.f7, y4.t5, y4.l5, y4.f8, y4.t6, y4.l6, y4.f10, y4.t7, y4.l7, true_and]
  refine c129 y4.t1 x4.t1 (by omega) y4.l1 x4.l1 ?_
  show WP _ _ _ _
  have x5 := x4.cp (x := b2 + 1) (i := 0) (y := b + 1) (j := 0) (n := 12) (by omega)
  have f5 := f4.cp (a := b2 + 1) (i := 0) (b := b + 1) (j := 0) (m := 12) (by omega) (by omega)
  have y5 := c.B.fr f5 (by omega)
  have e5 : ∀ n, am_m (am_cp g (b2 + 1) 0 (b + 1) 0 12) b n = am_m g b n := fun n => by
    rw [am_m_cp, if_neg (by omega)]
  have r5_1 : ∀ n, 0 ≤ n → n < 12 → am_m (am_cp g (b2 + 1) 0 (b + 1) 0 12) (b + 1) n = am_m h (b2 + 1) n := fun n z1 z2 => by
    rw [am_m_cp, if_pos ⟨rfl, by omega, by omega⟩, show 0 + (n - 0) = n by omega]
    exact rd _ f4 (b2 + 1) (by omega) (by omega) n
  generalize (am_cp g (b2 + 1) 0 (b + 1) 0 12) = g5 at x5 f5 y5 e5 r5_1 ⊢
  refine v130_41 ?_
  simp only [x5.t, x5.f11, x5.f3, x5.t1, x5.l1, x5.f4, x5.t2, x5.l2, x5.f5, x5.t3, x5.l3, x5.f6, x5.t4, x5.l4, x5.f7, x5.t5, x5.l5, x5.f8, x5.t6, x5.l6, x5.f10, x5.t7, x5.l7, y5.t, y5.f11, y5.f3, y5.t1, y5.l1, y5.f4, y5.t2, y5.l2, y5.f5, y5.t3, y5.l3, y5.f6, y5.t4, y5.l4, y5.f7, y5.t5, y5.l5, y5.f8, y5.t6, y5.l6, y5.f10, y5.t7, y5.l7, true_and]
  refine c129 y5.t2 x5.t2 (by omega) y5.l2 x5.l2 ?_
  show WP _ _ _ _
  have x6 := x5.cp (x := b2 + 2) (i := 0) (y := b + 2) (j := 0) (n := 12) (by omega)
  have f6 := f5.cp (a := b2 + 2) (i := 0) (b := b + 2) (j := 0) (m := 12) (by omega) (by omega)
  have y6 := c.B.fr f6 (by omega)
  have e6 : ∀ n, am_m (am_cp g5 (b2 + 2) 0 (b + 2) 0 12) b n = am_m g b n := fun n => by
    rw [am_m_cp, if_neg (by omega)]
    exact e5 n
  have r6_1 : ∀ n, 0 ≤ n → n < 12 → am_m (am_cp g5 (b2 + 2) 0 (b + 2) 0 12) (b + 1) n = am_m h (b2 + 1) n := fun n z1 z2 => by
    rw [am_m_cp, if_neg (by omega)]
    exact r5_1 n z1 z2
  have r6_2 : ∀ n, 0 ≤ n → n < 12 → am_m (am_cp g5 (b2 + 2) 0 (b + 2) 0 12) (b + 2) n = am_m h (b2 + 2) n := fun n z1 z2 => by
    rw [am_m_cp, if_pos ⟨rfl, by omega, by omega⟩, show 0 + (n - 0) = n by omega]
    exact rd _ f5 (b2 + 2) (by omega) (by omega) n
  generalize (am_cp g5 (b2 + 2) 0 (b + 2) 0 12) = g6 at x6 f6 y6 e6 r6_1 r6_2 ⊢
  refine v130_53 ?_
  simp only [x6.t, x6.f11, x6.f3, x6.t1, x6.l1, x6.f4, x6.t2, x6.l2, x6.f5, x6.t3, x6.l3, x6.f6, x6.t4, x6.l4, x6.f7, x6.t5, x6.l5, x6.f8, x6.t6, x6.l6, x6.f10, x6.t7, x6.l7, y6.t, y6.f11, y6.f3, y6.t1, y6.l1, y6.f4, y6.t2, y6.l2, y6.f5, y6.t3, y6.l3, y6.f6, y6.t4, y6.l4, y6.f7, y6.t5, y6.l5, y6.f8, y6.t6, y6.l6, y6.f10, y6.t7, y6.l7, true_and]
  refine c129 y6.t3 x6.t3 (by omega) y6.l3 x6.l3 ?_
  show WP _ _ _ _
  have x7 := x6.cp (x := b2 + 3) (i := 0) (y := b + 3) (j := 0) (n := 12) (by omega)
  have f7 := f6.cp (a := b2 + 3) (i := 0) (b := b + 3) (j := 0) (m := 12) (by omega) (by omega)
  have y7 := c.B.fr f7 (by omega)
  have e7 : ∀ n, am_m (am_cp g6 (b2 + 3) 0 (b + 3) 0 12) b n = am_m g b n := fun n => by
    rw [am_m_cp, if_neg (by omega)]
    exact e6 n
  have r7_1 : ∀ n, 0 ≤ n → n < 12 → am_m (am_cp g6 (b2 + 3) 0 (b + 3) 0 12) (b + 1) n = am_m h (b2 + 1) n := fun n z1 z2 => by
    rw [am_m_cp, if_neg (by omega)]
    exact r6_1 n z1 z2
  have r7_2 : ∀ n, 0 ≤ n → n < 12 → am_m (am_cp g6 (b2 + 3) 0 (b + 3) 0 12) (b + 2) n = am_m h (b2 + 2) n := fun n z1 z2 => by
    rw [am_m_cp, if_neg (by omega)]
    exact r6_2 n z1 z2
  have r7_3 : ∀ n, 0 ≤ n → n < 12 → am_m (am_cp g6 (b2 + 3) 0 (b + 3) 0 12) (b + 3) n = am_m h (b2 + 3) n := fun n z1 z2 => by
    rw [am_m_cp, if_pos ⟨rfl, by omega, by omega⟩, show 0 + (n - 0) = n by omega]
    exact rd _ f6 (b2 + 3) (by omega) (by omega) n
  generalize (am_cp g6 (b2 + 3) 0 (b + 3) 0 12) = g7 at x7 f7 y7 e7 r7_1 r7_2 r7_3 ⊢
  refine v130_65 ?_
  simp only [x7.t, x7.f11, x7.f3, x7.t1, x7.l1, x7.f4, x7.t2, x7.l2, x7.f5, x7.t3, x7.l3, x7.f6, x7.t4, x7.l4, x7.f7, x7.t5, x7.l5, x7.f8, x7.t6, x7.l6, x7.f10, x7.t7, x7.l7, y7.t, y7.f11, y7.f3, y7.t1, y7.l1, y7.f4, y7.t2, y7.l2, y7.f5, y7.t3, y7.l3, y7.f6, y7.t4, y7.l4, y7.f7, y7.t5, y7.l5, y7.f8, y7.t6, y7.l6, y7.f10, y7.t7, y7.l7, true_and]
  refine c129 y7.t4 x7.t4 (by omega) y7.l4 x7.l4 ?_
  show WP _ _ _ _
  have x8 := x7.cp (x := b2 + 4) (i := 0) (y := b + 4) (j := 0) (n := 12) (by omega)
  have f8 := f7.cp (a := b2 + 4) (i := 0) (b := b + 4) (j := 0) (m := 12) (by omega) (by omega)
  have y8 := c.B.fr f8 (by omega)
  have e8 : ∀ n, am_m (am_cp g7 (b2 + 4) 0 (b + 4) 0 12) b n = am_m g b n := fun n => by
    rw [am_m_cp, if_neg (by omega)]
    exact e7 n
  have r8_1 : ∀ n, 0 ≤ n → n < 12 → am_m (am_cp g7 (b2 + 4) 0 (b + 4) 0 12) (b + 1) n = am_m h (b2 + 1) n := fun n z1 z2 => by
    rw [am_m_cp, if_neg (by omega)]
    exact r7_1 n z1 z2
  have r8_2 : ∀ n, 0 ≤ n → n < 12 → am_m (am_cp g7 (b2 + 4) 0 (b + 4) 0 12) (b + 2) n = am_m h (b2 + 2) n := fun n z1 z2 => by
    rw [am_m_cp, if_neg (by omega)]
    exact r7_2 n z1 z2
  have r8_3 : ∀ n, 0 ≤ n → n < 12 → am_m (am_cp g7 (b2 + 4) 0 (b + 4) 0 12) (b + 3) n = am_m h (b2 + 3) n := fun n z1 z2 => by
    rw [am_m_cp, if_neg (by omega)]
    exact r7_3 n z1 z2
  have r8_4 : ∀ n, 0 ≤ n → n < 12 → am_m (am_cp g7 (b2 + 4) 0 (b + 4) 0 12) (b + 4) n = am_m h (b2 + 4) n := fun n z1 z2 => by
    rw [am_m_cp, if_pos ⟨rfl, by omega, by omega⟩, show 0 + (n - 0) = n by omega]
    exact rd _ f7 (b2 + 4) (by omega) (by omega) n
  generalize (am_cp g7 (b2 + 4) 0 (b + 4) 0 12) = g8 at x8 f8 y8 e8 r8_1 r8_2 r8_3 r8_4 ⊢
  refine v130_77 ?_
  simp only [x8.t, x8.f11, x8.f3, x8.t1, x8.l1, x8.f4, x8.t2, x8.l2, x8.f5, x8.t3, x8.l3, x8.f6, x8.t4, x8.l4, x8.f7, x8.t5, x8.l5, x8.f8, x8.t6, x8.l6, x8.f10, x8.t7, x8.l7, y8.t, y8.f11, y8.f3, y8.t1, y8.l1, y8.f4, y8.t2, y8.l2, y8.f5, y8.t3, y8.l3, y8.f6, y8.t4, y8.l4, y8.f7, y8.t5, y8.l5, y8.f8, y8.t6, y8.l6, y8.f10, y8.t7, y8.l7, true_and]
  refine c129 y8.t5 x8.t5 (by omega) y8.l5 x8.l5 ?_
  show WP _ _ _ _
  have x9 := x8.cp (x := b2 + 5) (i := 0) (y := b + 5) (j := 0) (n := 12) (by omega)
  have f9 := f8.cp (a := b2 + 5) (i := 0) (b := b + 5) (j := 0) (m := 12) (by omega) (by omega)
  have y9 := c.B.fr f9 (by omega)
  have e9 : ∀ n, am_m (am_cp g8 (b2 + 5) 0 (b + 5) 0 12) b n = am_m g b n := fun n => by
    rw [am_m_cp, if_neg (by omega)]
    exact e8 n
  have r9_1 : ∀ n, 0 ≤ n → n < 12 → am_m (am_cp g8 (b2 + 5) 0 (b + 5) 0 12) (b + 1) n = am_m h (b2 + 1) n := fun n z1 z2 => by
    rw [am_m_cp, if_neg (by omega)]
    exact r8_1 n z1 z2
  have r9_2 : ∀ n, 0 ≤ n → n < 12 → am_m (am_cp g8 (b2 + 5) 0 (b + 5) 0 12) (b + 2) n = am_m h (b2 + 2) n := fun n z1 z2 => by
    rw [am_m_cp, if_neg (by omega)]
    exact r8_2 n z1 z2
  have r9_3 : ∀ n, 0 ≤ n → n < 12 → am_m (am_cp g8 (b2 + 5) 0 (b + 5) 0 12) (b + 3) n = am_m h (b2 + 3) n := fun n z1 z2 => by
    rw [am_m_cp, if_neg (by omega)]
    exact r8_3 n z1 z2
  have r9_4 : ∀ n, 0 ≤ n → n < 12 → am_m (am_cp g8 (b2 + 5) 0 (b + 5) 0 12) (b + 4) n = am_m h (b2 + 4) n := fun n z1 z2 => by
    rw [am_m_cp, if_neg (by omega)]
    exact r8_4 n z1 z2
  have r9_5 : ∀ n, 0 ≤ n → n < 12 → am_m (am_cp g8 (b2 + 5) 0 (b + 5) 0 12) (b + 5) n = am_m h (b2 + 5) n := fun n z1 z2 => by
    rw [am_m_cp, if_pos ⟨rfl, by omega, by omega⟩, show 0 + (n - 0) = n by omega]
    exact rd _ f8 (b2 + 5) (by omega) (by omega) n
  generalize (am_cp g8 (b2 + 5) 0 (b + 5) 0 12) = g9 at x9 f9 y9 e9 r9_1 r9_2 r9_3 r9_4 r9_5 ⊢
  refine v130_89 ?_
  simp only [x9.t, x9.f11, x9.f3, x9.t1, x9.l1, x9.f4, x9.t2, x9.l2, x9.f5, x9.t3, x9.l3, x9.f6, x9.t4, x9.l4, x9.f7, x9.t5, x9.l5, x9.f8, x9.t6, x9.l6, x9.f10, x9.t7, x9.l7, y9.t, y9.f11, y9.f3, y9.t1, y9.l1, y9.f4, y9.t2, y9.l2, y9.f5, y9.t3, y9.l3, y9.f6, y9.t4, y9.l4, y9.f7, y9.t5, y9.l5, y9.f8, y9.t6, y9.l6, y9.f10, y9.t7, y9.l7, true_and]
  refine c129 y9.t6 x9.t6 (by omega) y9.l6 x9.l6 ?_
  show WP _ _ _ _
  have x10 := x9.cp (x := b2 + 6) (i := 0) (y := b + 6) (j := 0) (n := 12) (by omega)
  have f10 := f9.cp (a := b2 + 6) (i := 0) (b := b + 6) (j := 0) (m := 12) (by omega) (by omega)
  have y10 := c.B.fr f10 (by omega)
  have e10 : ∀ n, am_m (am_cp g9 (b2 + 6) 0 (b + 6) 0 12) b n = am_m g b n := fun n => by
    rw [am_m_cp, if_neg (by omega)]
    exact e9 n
  have r10_1 : ∀ n, 0 ≤ n → n < 12 → am_m (am_cp g9 (b2 + 6) 0 (b + 6) 0 12) (b + 1) n = am_m h (b2 + 1) n := fun n z1 z2 => by
    rw [am_m_cp, if_neg (by omega)]
    exact r9_1 n z1 z2
  have r10_2 : ∀ n, 0 ≤ n → n < 12 → am_m (am_cp g9 (b2 + 6) 0 (b + 6) 0 12) (b + 2) n = am_m h (b2 + 2) n := fun n z1 z2 => by
    rw [am_m_cp, if_neg (by omega)]
    exact r9_2 n z1 z2
  have r10_3 : ∀ n, 0 ≤ n → n < 12 → am_m (am_cp g9 (b2 + 6) 0 (b + 6) 0 12) (b + 3) n = am_m h (b2 + 3) n := fun n z1 z2 => by
    rw [am_m_cp, if_neg (by omega)]
    exact r9_3 n z1 z2
  have r10_4 : ∀ n, 0 ≤ n → n < 12 → am_m (am_cp g9 (b2 + 6) 0 (b + 6) 0 12) (b + 4) n = am_m h (b2 + 4) n := fun n z1 z2 => by
    rw [am_m_cp, if_neg (by omega)]
    exact r9_4 n z1 z2
  have r10_5 : ∀ n, 0 ≤ n → n < 12 → am_m (am_cp g9 (b2 + 6) 0 (b + 6) 0 12) (b + 5) n = am_m h (b2 + 5) n := fun n z1 z2 => by
    rw [am_m_cp, if_neg (by omega)]
    exact r9_5 n z1 z2
  have r10_6 : ∀ n, 0 ≤ n → n < 12 → am_m (am_cp g9 (b2 + 6) 0 (b + 6) 0 12) (b + 6) n = am_m h (b2 + 6) n := fun n z1 z2 => by
    rw [am_m_cp, if_pos ⟨rfl, by omega, by omega⟩, show 0 + (n - 0) = n by omega]
    exact rd _ f9 (b2 + 6) (by omega) (by omega) n
  generalize (am_cp g9 (b2 + 6) 0 (b + 6) 0 12) = g10 at x10 f10 y10 e10 r10_1 r10_2 r10_3 r10_4 r10_5 r10_6 ⊢
  refine v130_101 (k g10 f10 ⟨c.M.fr f10 (by omega), x10, c.2.2.1.fr f10 aq, ⟨(e10 0).trans g0.1, (e10 1).trans g0.2.1, (e10 2).trans g0.2.2.1, fun v z1 z2 => ⟨(r10_1 v z1 (by omega)).trans (c.purse z1 z2), (r10_2 v z1 (by omega)).trans (c.gave z1 z2), ?_⟩, fun p z1 z2 => ⟨(r10_4 p z1 (by omega)).trans (c.cost z1 z2), (r10_5 p z1 (by omega)).trans (c.built z1 z2), (r10_6 p z1 (by omega)).trans (c.bought z1 z2)⟩⟩, c.I, c.S, ?_, au, aq⟩ ((e10 9).trans g0.2.2.2))
  · rw [r10_3 v z1 (by omega)]
    exact ⟨c.fb z1 z2, fun p z3 z4 => c.fan z1 z2 z3 z4⟩
  · have := c.M.b
    have hu := c.M.p
    rw [f10.2.2.2.2 u (by omega) (by omega)]
    exact c.bud
/-! a plan's first state -/
def PB (pp : TT) : Prop := (0 ≤ pp 8 0 ∧ pp 8 0 ≤ 9999) ∧ (∀ p, 0 ≤ p → p < pp 1 0 → 1 ≤ pp 9 p ∧ pp 9 p ≤ 9999) ∧ (∀ i, pp 10 i = 0 ∨ pp 10 i = 1) ∧ ∀ v p, 0 ≤ v → 0 ≤ p → v < 12 → p < 12 → (pp 2 0 ≤ v ∨ pp 1 0 ≤ p) → pp 10 (12 * v + p) = 0
def CB (h : AH) (q : Int) (pp : TT) : Prop := am_m h q 4 = pp 8 0 ∧ ∀ p, 0 ≤ p → p < pp 1 0 → am_m h (q + 3) p = pp 9 p ∧ (0 ≤ am_m h (q + 5) p ∧ am_m h (q + 5) p < 4096) ∧ ∀ v, 0 ≤ v → v < 12 → am_and (am_shr (am_m h (q + 5) p) v) 1 = pp 10 (12 * v + p)
def MB (h : AH) (q : Int) (pp : TT) : Prop := (∀ p, 0 ≤ p → p < pp 1 0 → am_m h (q + 2) p = pp 9 p) ∧ ∀ v, 0 ≤ v → v < pp 2 0 → (0 ≤ am_m h (q + 5) v ∧ am_m h (q + 5) v < 4096) ∧ ∀ p, 0 ≤ p → p < 12 → am_and (am_shr (am_m h (q + 5) v) p) 1 = pp 10 (12 * v + p)
def s_bg (pp : TT) (y : Int) : TT := fun k i => if k = 0 then y else if k = 1 then pp 8 0 else if k = 6 then pp 9 i else if k = 7 then -1 else if k = 9 then pp 10 i else 0
theorem s_bg_SI {pp : TT} {y : Int} (B : PB pp) (hy : 0 ≤ y ∧ y < 2000000000) : SI pp (s_bg pp y) := by
  refine ⟨hy, B.1, ⟨Int.le_refl _, by show (0 : Int) ≤ 9999; decide⟩, fun v _ _ => ⟨Int.le_refl _, by show (0 : Int) ≤ 9999; decide⟩, fun p z1 z2 => ⟨B.2.1 p z1 z2, ⟨Int.le_refl _, ?_⟩, Or.inl rfl⟩, B.2.2.1, B.2.2.2⟩
  show (-1 : Int) ≤ y
  omega
theorem c47 {d : Nat} {h : AH} {a q a0 y lo : Int} {pp : TT} {K : AK} (x0 : P3 h a a0) (cp : CP h q pp) (cb : CB h q pp) (hI : PI pp) (hB : PB pp) (ey : am_m h a 0 = y) (hy : 0 ≤ y ∧ y < 2000000000) (hl : am_m h a 2 = lo) (ap : q + 10 ≤ a ∨ a + 9 ≤ q) (k : ∀ h2, Fr a 9 h h2 → CC h2 a q pp (s_bg pp y) → am_m h2 a 2 = lo → K 0 0 h2) : am_call d 47 [(2, a), (2, q)] h K := by
  have np := hI.np
  have nv := hI.nv
  have bq := cp.1.b
  have pq := cp.1.p
  refine v47 ⟨x0.t, ?_⟩
  have x1 : P3 (am_w h a 5 q) a q := x0.set5
  have f1 : Fr a 9 h (am_w h a 5 q) := Fr.rf.w (by omega) (by omega)
  have y1 := cp.1.fr f1 ap
  have eb : am_m (am_w h a 5 q) q 4 = pp 8 0 := by rw [am_m_w, if_neg (by omega)]; exact cb.1
  refine v47_5 ?_
  simp only [x1.t, y1.t, eb, true_and]
  have x2 := x1.w (b := a) (i := 1) (v := pp 8 0) (by omega)
  have f2 := f1.w (a := a) (i := 1) (v := pp 8 0) (by omega) (by omega)
  refine v47_13 ⟨x2.t, ?_⟩
  have x3 := x2.w (b := a) (i := 6) (v := 0) (by omega)
  have f3 := f2.w (a := a) (i := 6) (v := 0) (by omega) (by omega)
  refine v47_18 ⟨x3.t, ?_⟩
  have x4 := x3.w (b := a) (i := 7) (v := 0) (by omega)
  have f4 := f3.w (a := a) (i := 7) (v := 0) (by omega) (by omega)
  refine v47_23 ?_
  generalize hg : am_w (am_w (am_w (am_w h a 5 q) a 1 (pp 8 0)) a 6 0) a 7 0 = g at x4 f4 ⊢
  have g0 : am_m g a 0 = y ∧ am_m g a 1 = pp 8 0 ∧ am_m g a 6 = 0 ∧ am_m g a 7 = 0 ∧ am_m g a 2 = lo := by
    subst hg
    simp only [am_m_w]
    simp [ey, hl]
  have H2 : ∀ j : Nat, ∀ i : Nat, i + j = 12 → ∀ h1, P3 h1 a q → Fr a 9 h h1 → (∀ n, am_m h1 a n = am_m g a n) → (∀ n, 0 ≤ n → n < 12 → am_m h1 (a + 1) n = 0 ∧ am_m h1 (a + 3) n = 0) → (∀ n, 0 ≤ n → n < (i : Int) → am_m h1 (a + 4) n = am_m h (q + 3) n ∧ am_m h1 (a + 5) n = am_m h (q + 5) n ∧ am_m h1 (a + 2) n = -1 ∧ am_m h1 (a + 6) n = 0) → WP d 47 (53, [(2, a), (2, q), (0, (i : Int))], [], h1, 0, 0) K := by
    intro j
    induction j with
    | zero =>
      intro i hij h1 x f gn r1 r2
      refine v47_53 ⟨fun z => absurd z (by omega), fun _ => k h1 f ⟨x, cp.fr f ap, ⟨(gn 0).trans g0.1, (gn 1).trans g0.2.1, (gn 6).trans g0.2.2.1, (gn 7).trans g0.2.2.2.1, fun v z1 z2 => ⟨(r1 v z1 (by omega)).1, (r1 v z1 (by omega)).2⟩, fun p z1 z2 => ?_⟩, hI, s_bg_SI hB hy, ap⟩ ((gn 2).trans g0.2.2.2.2)⟩
      obtain ⟨w1, w2, w3, w4⟩ := r2 p z1 (by omega)
      obtain ⟨b1, b2, b3⟩ := cb.2 p z1 z2
      refine ⟨w1.trans b1, w3, w4, by rw [w2]; exact b2, fun v z3 z4 => by rw [w2]; exact b3 v z3 z4⟩
    | succ j ih =>
      intro i hij h1 x f gn r1 r2
      have y := cp.1.fr f ap
      have G := ih (i + 1) (by omega)
      refine v47_53 ⟨fun _ => ?_, fun z => absurd (show (i : Int) < 12 by omega) z⟩
      simp only [x.t, x.f5, x.f3, x.t1, x.l1, x.f4, x.t2, x.l2, x.f8, x.t3, x.l3, x.f9, x.t4, x.l4, x.f10, x.t5, x.l5, x.f11, x.t6, x.l6, x.f12, x.t7, x.l7, x.f13, x.t8, x.l8, y.t, y.f6, y.t1, y.l1, y.f7, y.t2, y.l2, y.f8, y.t3, y.l3, y.f9, y.t4, y.l4, y.f10, y.t5, y.l5, y.f11, y.t6, y.l6, y.f12, y.t7, y.l7, y.f13, y.t8, y.l8, y.f14, y.t9, y.l9, true_and]
      refine ⟨⟨by omega, by omega⟩, ⟨by omega, by omega⟩, v47_71 ?_⟩
      have q4 := f.2.2.2.2 (q + 3) (by omega) (by omega) (i : Int)
      have q5 := f.2.2.2.2 (q + 5) (by omega) (by omega) (i : Int)
      have xa := x.w (b := a + 4) (i := (i : Int)) (v := am_m h1 (q + 3) (i : Int)) (by omega)
      have fa := f.w (a := a + 4) (i := (i : Int)) (v := am_m h1 (q + 3) (i : Int)) (by omega) (by omega)
      have ya := cp.1.fr fa ap
      simp only [xa.t, xa.f5, xa.f3, xa.t1, xa.l1, xa.f4, xa.t2, xa.l2, xa.f8, xa.t3, xa.l3, xa.f9, xa.t4, xa.l4, xa.f10, xa.t5, xa.l5, xa.f11, xa.t6, xa.l6, xa.f12, xa.t7, xa.l7, xa.f13, xa.t8, xa.l8, ya.t, ya.f6, ya.t1, ya.l1, ya.f7, ya.t2, ya.l2, ya.f8, ya.t3, ya.l3, ya.f9, ya.t4, ya.l4, ya.f10, ya.t5, ya.l5, ya.f11, ya.t6, ya.l6, ya.f12, ya.t7, ya.l7, ya.f13, ya.t8, ya.l8, ya.f14, ya.t9, ya.l9, true_and]
      refine ⟨⟨by omega, by omega⟩, ⟨by omega, by omega⟩, v47_83 ?_⟩
      rw [am_m_w, if_neg (by omega)]
      have xb := xa.w (b := a + 5) (i := (i : Int)) (v := am_m h1 (q + 5) (i : Int)) (by omega)
      have fb := fa.w (a := a + 5) (i := (i : Int)) (v := am_m h1 (q + 5) (i : Int)) (by omega) (by omega)
      simp only [xb.t, xb.f5, xb.f3, xb.t1, xb.l1, xb.f4, xb.t2, xb.l2, xb.f8, xb.t3, xb.l3, xb.f9, xb.t4, xb.l4, xb.f10, xb.t5, xb.l5, xb.f11, xb.t6, xb.l6, xb.f12, xb.t7, xb.l7, xb.f13, xb.t8, xb.l8, true_and]
      refine ⟨⟨by omega, by omega⟩, v47_90 ?_⟩
      have xc := xb.w (b := a + 2) (i := (i : Int)) (v := -1) (by omega)
      have fc := fb.w (a := a + 2) (i := (i : Int)) (v := -1) (by omega) (by omega)
      simp only [xc.t, xc.f5, xc.f3, xc.t1, xc.l1, xc.f4, xc.t2, xc.l2, xc.f8, xc.t3, xc.l3, xc.f9, xc.t4, xc.l4, xc.f10, xc.t5, xc.l5, xc.f11, xc.t6, xc.l6, xc.f12, xc.t7, xc.l7, xc.f13, xc.t8, xc.l8, true_and]
      refine ⟨⟨by omega, by omega⟩, v47_97 ?_⟩
      rw [w32_nat (by omega)]
      have xd := xc.w (b := a + 6) (i := (i : Int)) (v := 0) (by omega)
      have fd := fc.w (a := a + 6) (i := (i : Int)) (v := 0) (by omega) (by omega)
      refine G _ xd fd (fun n => ?_) (fun n z1 z2 => ⟨?_, ?_⟩) (fun n z1 z2 => ?_)
      · rw [am_m_w, if_neg (by omega), am_m_w, if_neg (by omega), am_m_w, if_neg (by omega), am_m_w, if_neg (by omega)]
        exact gn n
      · rw [am_m_w, if_neg (by omega), am_m_w, if_neg (by omega), am_m_w, if_neg (by omega), am_m_w, if_neg (by omega)]
        exact (r1 n z1 z2).1
      · rw [am_m_w, if_neg (by omega), am_m_w, if_neg (by omega), am_m_w, if_neg (by omega), am_m_w, if_neg (by omega)]
        exact (r1 n z1 z2).2
      · by_cases zn : n = (i : Int)
        · subst zn
          refine ⟨?_, ?_, ?_, ?_⟩
          · rw [am_m_w, if_neg (by omega), am_m_w, if_neg (by omega), am_m_w, if_neg (by omega), am_m_w, if_pos ⟨rfl, rfl⟩]
            exact q4
          · rw [am_m_w, if_neg (by omega), am_m_w, if_neg (by omega), am_m_w, if_pos ⟨rfl, rfl⟩]
            exact q5
          · rw [am_m_w, if_neg (by omega), am_m_w, if_pos ⟨rfl, rfl⟩]
          · rw [am_m_w, if_pos ⟨rfl, rfl⟩]
        · rw [am_m_w, if_neg (by omega), am_m_w, if_neg (by omega), am_m_w, if_neg (by omega), am_m_w, if_neg (by omega), am_m_w, if_neg (by omega), am_m_w, if_neg (by omega), am_m_w, if_neg (by omega), am_m_w, if_neg (by omega), am_m_w, if_neg (by omega), am_m_w, if_neg (by omega), am_m_w, if_neg (by omega), am_m_w, if_neg (by omega), am_m_w, if_neg (by omega), am_m_w, if_neg (by omega), am_m_w, if_neg (by omega), am_m_w, if_neg (by omega)]
          exact r2 n z1 (by omega)
  suffices H : ∀ j : Nat, ∀ i : Nat, i + j = 12 → ∀ h1, P3 h1 a q → Fr a 9 h h1 → (∀ n, am_m h1 a n = am_m g a n) → (∀ n, 0 ≤ n → n < (i : Int) → am_m h1 (a + 1) n = 0 ∧ am_m h1 (a + 3) n = 0) → WP d 47 (25, [(2, a), (2, q), (0, (i : Int))], [], h1, 0, 0) K from H 12 0 rfl g x4 f4 (fun _ => rfl) (fun n z1 z2 => absurd z1 (by omega))
  intro j
  induction j with
  | zero =>
    intro i hij h1 x f gn r1
    exact v47_25 ⟨fun z => absurd z (by omega), fun _ => H2 12 0 rfl h1 x f gn (fun n z1 z2 => r1 n z1 (by omega)) (fun n z1 z2 => absurd z1 (by omega))⟩
  | succ j ih =>
    intro i hij h1 x f gn r1
    have G := ih (i + 1) (by omega)
    refine v47_25 ⟨fun _ => ?_, fun z => absurd (show (i : Int) < 12 by omega) z⟩
    simp only [x.t, x.f5, x.f3, x.t1, x.l1, x.f4, x.t2, x.l2, x.f8, x.t3, x.l3, x.f9, x.t4, x.l4, x.f10, x.t5, x.l5, x.f11, x.t6, x.l6, x.f12, x.t7, x.l7, x.f13, x.t8, x.l8, true_and]
    refine ⟨⟨by omega, by omega⟩, v47_38 ?_⟩
    have xa := x.w (b := a + 1) (i := (i : Int)) (v := 0) (by omega)
    have fa := f.w (a := a + 1) (i := (i : Int)) (v := 0) (by omega) (by omega)
    simp only [xa.t, xa.f5, xa.f3, xa.t1, xa.l1, xa.f4, xa.t2, xa.l2, xa.f8, xa.t3, xa.l3, xa.f9, xa.t4, xa.l4, xa.f10, xa.t5, xa.l5, xa.f11, xa.t6, xa.l6, xa.f12, xa.t7, xa.l7, xa.f13, xa.t8, xa.l8, true_and]
    refine ⟨⟨by omega, by omega⟩, v47_45 ?_⟩
    rw [w32_nat (by omega)]
    refine G _ (xa.w (by omega)) (fa.w (by omega) (by omega)) (fun n => ?_) (fun n z1 z2 => ?_)
    · rw [am_m_w, if_neg (by omega), am_m_w, if_neg (by omega)]
      exact gn n
    · by_cases zn : n = (i : Int)
      · subst zn
        refine ⟨?_, ?_⟩
        · rw [am_m_w, if_neg (by omega), am_m_w, if_pos ⟨rfl, rfl⟩]
        · rw [am_m_w, if_pos ⟨rfl, rfl⟩]
      · rw [am_m_w, if_neg (by omega), am_m_w, if_neg (by omega), am_m_w, if_neg (by omega), am_m_w, if_neg (by omega)]
        exact r1 n z1 (by omega)
