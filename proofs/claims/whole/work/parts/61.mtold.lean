/-! ===== the reference: what is told of wards, projects, voters ===== -/
theorem am_t_a {h : AH} {t : Nat} {n b : Int} {f : Int → Int} : am_t (am_a h t n f) b = if b = am_n h then t else am_t h b := rfl
theorem am_l_a {h : AH} {t : Nat} {n b : Int} {f : Int → Int} : am_l (am_a h t n f) b = if b = am_n h then n else am_l h b := rfl
theorem am_m_a {h : AH} {t : Nat} {n b j : Int} {f : Int → Int} : am_m (am_a h t n f) b j = if b = am_n h then f j else am_m h b j := rfl
theorem am_n_a {h : AH} {t : Nat} {n : Int} {f : Int → Int} : am_n (am_a h t n f) = am_n h + 1 := rfl
theorem Fr.a {lo n : Int} {h h1 : AH} {t : Nat} {m : Int} {f : Int → Int} (x : Fr lo n h h1) : Fr lo n h (am_a h1 t m f) := by
  obtain ⟨a1, a2, a3, a4, a5⟩ := x
  refine ⟨by rw [am_n_a]; omega, a2, a3, fun b hb => ?_, fun b hb hn i => ?_⟩
  · rw [am_t_a, am_l_a, if_neg (by omega), if_neg (by omega)]
    exact a4 b hb
  · rw [am_m_a, if_neg (by omega)]
    exact a5 b hb hn i
theorem Fr.nw {lo n a i v : Int} {h h1 : AH} (x : Fr lo n h h1) (hb : am_n h ≤ a) : Fr lo n h (am_w h1 a i v) := by
  obtain ⟨a1, a2, a3, a4, a5⟩ := x
  refine ⟨a1, a2, a3, a4, fun q hq hn j => ?_⟩
  rw [am_m_w, if_neg (by omega)]
  exact a5 q hq hn j
/-- an array being filled in, the state of the reference in place -/
def JJ (h : AH) (u q s e : Int) (pp ss : TT) (L : Int) (f : Int → Int) (g : AH) (j : Int) : Prop := MM g u q s e s pp ss ∧ Fr s 8 h g ∧ am_m g s 9 = am_m h s 9 ∧ am_n h < am_n g ∧ am_t g (am_n h) = 20 ∧ am_l g (am_n h) = L ∧ (u + 6 < am_n h ∧ q + 10 < am_n h ∧ s + 7 < am_n h) ∧ ∀ i, 0 ≤ i → i < j → am_m g (am_n h) i = f i
theorem JJ.mk {h : AH} {u q s e L : Int} {pp ss : TT} {f : Int → Int} (c : MM h u q s e s pp ss) : JJ h u q s e pp ss L f (am_a h 20 L (fun _ => 0)) 0 := by
  have b1 := c.M.b
  have b2 := c.B.b
  have b3 := c.Q.b
  refine ⟨c.fr (lo := am_n h) (n := 0) Fr.rf.a (by omega) (by omega) (by omega), Fr.rf.a, ?_, ?_, ?_, ?_, by omega, fun i z1 z2 => absurd z1 (by omega)⟩
  · rw [am_m_a, if_neg (by omega)]
  · rw [am_n_a]
    omega
  · rw [am_t_a, if_pos rfl]
  · rw [am_l_a, if_pos rfl]
theorem JJ.wr {h g : AH} {u q s e L j v : Int} {pp ss : TT} {f : Int → Int} (x : JJ h u q s e pp ss L f g j) (hv : v = f j) : JJ h u q s e pp ss L f (am_w g (am_n h) j v) (j + 1) := by
  obtain ⟨x1, x2, x3, x4, x5, x6, x7, x8⟩ := x
  have b1 := x1.M.b
  have b2 := x1.B.b
  have b3 := x1.Q.b
  have c0 : Fr s 8 h g := x2
  have ap := x1.ap
  have hm : MM (am_w g (am_n h) j v) u q s e s pp ss := x1.fr (lo := am_n h) (n := 1) (Fr.rf.w (by omega) (by omega)) (by omega) (by omega) (by omega)
  exact ⟨hm, x2.nw (Int.le_refl _), by rw [am_m_w, if_neg (by omega)]; exact x3, x4, x5, x6, x7, fun i z1 z2 => by
    rw [am_m_w]
    by_cases z : i = j
    · rw [if_pos ⟨rfl, z⟩, hv, z]
    · rw [if_neg (fun y => z y.2)]
      exact x8 i z1 (by omega)⟩
theorem JJ.fm {h g g2 : AH} {u q s e L j : Int} {pp ss : TT} {f : Int → Int} (x : JJ h u q s e pp ss L f g j) (fm : Fm s g g2) (c2 : MM g2 u q s e s pp ss) : JJ h u q s e pp ss L f g2 j := by
  obtain ⟨x1, x2, x3, x4, x5, x6, x7, x8⟩ := x
  refine ⟨c2, x2.tr fm.fr, (fm.2.2.2.2 s 9 (by omega)).trans x3, by rw [fm.1]; exact x4, by rw [(fm.2.2.2.1 _).1]; exact x5, by rw [(fm.2.2.2.1 _).2]; exact x6, x7, fun i z1 z2 => (fm.2.2.2.2 _ i (by omega)).trans (x8 i z1 z2)⟩
theorem tg_cf {pp ss : TT} {p : Int} (hI : PI pp) (hS : SI pp ss) : s_tg pp ss p 9999 = s_cf pp ss p := by
  have nv := hI.nv
  refine sm_congr (fun i hi => ?_)
  have := hS.purse (i := (i : Int)) (by omega) (by omega)
  unfold f_tg f_cf
  split
  · rfl
  · omega
theorem c205 {d : Nat} {h : AH} {u q s e w t : Int} {pp ss : TT} {K : AK} (c : MM h u q s e s pp ss) (h0 : 0 ≤ w) (h1 : w < pp 0 0) (t0 : 0 ≤ t) (t1 : t < 4) (k : K 0 (s_ow pp ss w t) h) : am_call d 205 [(2, u), (0, w), (0, t)] h K := by
  have nw := c.I.nw
  have np := c.I.np
  have e0 := c.cap h0 h1
  unfold s_ow at k
  refine v205 ?_
  suffices H : ∀ j : Nat, ∀ i : Nat, i + j = (pp 1 0).toNat → WP d 205 (11, [(2, u), (0, w), (0, t), (0, sm (f_ow pp ss w 1) i), (0, sm (f_ow pp ss w 2) i), (0, sm (f_ow pp ss w 3) i), (0, (i : Int))], [], h, 0, 0) K from H _ 0 (Nat.zero_add _)
  intro j
  induction j with
  | zero =>
    intro i hij
    refine v205_11 ?_
    simp only [c.M.t, c.M.f12, c.M.f14, c.M.f15, c.M.f1, c.M.t1, c.M.l1, c.M.f5, c.M.t2, c.M.l2, c.M.f6, c.M.t3, c.M.l3, c.M.f7, c.M.t4, c.M.l4, c.M.f8, c.M.t5, c.M.l5, c.M.f9, c.M.t6, c.M.l6, c.B.t, c.B.f11, c.B.f3, c.B.t1, c.B.l1, c.B.f4, c.B.t2, c.B.l2, c.B.f5, c.B.t3, c.B.l3, c.B.f6, c.B.t4, c.B.l4, c.B.f7, c.B.t5, c.B.l5, c.B.f8, c.B.t6, c.B.l6, c.B.f10, c.B.t7, c.B.l7, c.Q.t, c.Q.f1, c.Q.t1, c.Q.l1, c.Q.f3, c.Q.t2, c.Q.l2, c.Q.f4, c.Q.t3, c.Q.l3, c.Q.f5, c.Q.t4, c.Q.l4, c.Q.f7, c.Q.t5, c.Q.l5, c.Q.f11, c.Q.t6, c.Q.l6, c.Q.f12, c.Q.t7, c.Q.l7, c.Q.f13, c.Q.t8, c.Q.l8, c.Q.f14, c.Q.t9, c.Q.l9, c.Q.f16, c.Q.t10, c.Q.l10, c.nw, c.np, c.nv, c.nb, c.yr, c.pot, c.pd, c.bud, e0, true_and]
    rw [show (pp 1 0).toNat = i by omega] at k
    refine ⟨fun z => absurd z (by omega), fun _ => ⟨fun z => ⟨⟨h0, by omega⟩, ?_⟩, fun z => ⟨fun z1 => ?_, fun z1 => ⟨fun z2 => ?_, fun z2 => ?_⟩⟩⟩⟩
    · rw [if_pos z] at k
      exact k
    · rw [if_neg z, z1] at k
      exact k
    · rw [if_neg z, z2] at k
      exact k
    · rw [if_neg z, show t = 3 by omega] at k
      exact k
  | succ j ih =>
    intro i hij
    have G := ih (i + 1) (by omega)
    have bd1 := ow_bd (w := w) (t := 1) c.I c.S (i + 1) (by omega)
    have bd2 := ow_bd (w := w) (t := 2) c.I c.S (i + 1) (by omega)
    have bd3 := ow_bd (w := w) (t := 3) c.I c.S (i + 1) (by omega)
    have ba1 := ow_bd (w := w) (t := 1) c.I c.S i (by omega)
    have ba2 := ow_bd (w := w) (t := 2) c.I c.S i (by omega)
    have ba3 := ow_bd (w := w) (t := 3) c.I c.S i (by omega)
    rw [show sm (f_ow pp ss w 1) (i + 1) = sm (f_ow pp ss w 1) i + f_ow pp ss w 1 (i : Int) from rfl, show sm (f_ow pp ss w 2) (i + 1) = sm (f_ow pp ss w 2) i + f_ow pp ss w 2 (i : Int) from rfl, show sm (f_ow pp ss w 3) (i + 1) = sm (f_ow pp ss w 3) i + f_ow pp ss w 3 (i : Int) from rfl] at G
    rw [show sm (f_ow pp ss w 1) (i + 1) = sm (f_ow pp ss w 1) i + f_ow pp ss w 1 (i : Int) from rfl] at bd1
    rw [show sm (f_ow pp ss w 2) (i + 1) = sm (f_ow pp ss w 2) i + f_ow pp ss w 2 (i : Int) from rfl] at bd2
    rw [show sm (f_ow pp ss w 3) (i + 1) = sm (f_ow pp ss w 3) i + f_ow pp ss w 3 (i : Int) from rfl] at bd3
    have e1 := c.ward (i := (i : Int)) (by omega) (by omega)
    have e2 := c.cost (i := (i : Int)) (by omega) (by omega)
    have e3 := c.built (i := (i : Int)) (by omega) (by omega)
    have g1 : f_ow pp ss w 1 (i : Int) = if pp 5 (i : Int) = w then 1 else 0 := by
      unfold f_ow
      simp
    have g2 : f_ow pp ss w 2 (i : Int) = if pp 5 (i : Int) = w then (if ss 7 (i : Int) = -1 then 0 else 1) else 0 := by
      unfold f_ow
      simp
    have g3 : f_ow pp ss w 3 (i : Int) = if pp 5 (i : Int) = w then (if ss 7 (i : Int) = -1 then 0 else ss 6 (i : Int)) else 0 := by
      unfold f_ow
      simp
    rw [g1, g2, g3] at G
    rw [g1] at bd1
    rw [g2] at bd2
    rw [g3] at bd3
    generalize sm (f_ow pp ss w 1) i = ac1 at G bd1 ba1 ⊢
    generalize sm (f_ow pp ss w 2) i = ac2 at G bd2 ba2 ⊢
    generalize sm (f_ow pp ss w 3) i = ac3 at G bd3 ba3 ⊢
    refine v205_11 ?_
    simp only [c.M.t, c.M.f12, c.M.f14, c.M.f15, c.M.f1, c.M.t1, c.M.l1, c.M.f5, c.M.t2, c.M.l2, c.M.f6, c.M.t3, c.M.l3, c.M.f7, c.M.t4, c.M.l4, c.M.f8, c.M.t5, c.M.l5, c.M.f9, c.M.t6, c.M.l6, c.B.t, c.B.f11, c.B.f3, c.B.t1, c.B.l1, c.B.f4, c.B.t2, c.B.l2, c.B.f5, c.B.t3, c.B.l3, c.B.f6, c.B.t4, c.B.l4, c.B.f7, c.B.t5, c.B.l5, c.B.f8, c.B.t6, c.B.l6, c.B.f10, c.B.t7, c.B.l7, c.Q.t, c.Q.f1, c.Q.t1, c.Q.l1, c.Q.f3, c.Q.t2, c.Q.l2, c.Q.f4, c.Q.t3, c.Q.l3, c.Q.f5, c.Q.t4, c.Q.l4, c.Q.f7, c.Q.t5, c.Q.l5, c.Q.f11, c.Q.t6, c.Q.l6, c.Q.f12, c.Q.t7, c.Q.l7, c.Q.f13, c.Q.t8, c.Q.l8, c.Q.f14, c.Q.t9, c.Q.l9, c.Q.f16, c.Q.t10, c.Q.l10, c.nw, c.np, c.nv, c.nb, c.yr, c.pot, c.pd, c.bud, e1, e2, e3, true_and]
    rw [w32_nat (by omega)]
    refine ⟨fun _ => ⟨⟨by omega, by omega⟩, fun z1 => ⟨⟨by omega, by omega⟩, fun z2 => ⟨⟨by omega, by omega⟩, fun z3 => ?_, fun z3 => absurd z2 z3⟩, fun z2 => ⟨⟨by omega, by omega⟩, fun z3 => absurd z3 z2, fun z3 => ⟨⟨by omega, by omega⟩, ?_⟩⟩⟩, fun z1 => ?_⟩, fun z => absurd (show (i : Int) < pp 1 0 by omega) z⟩
    · rw [if_pos z1, if_pos z1, if_pos z1, if_pos z2, if_pos z2] at G
      rw [if_pos z1] at bd1 bd2 bd3
      rw [w32_id (x := ac1 + 1) (by omega) (by omega), w32_id (x := ac2 + 0) (by omega) (by omega), w32_id (x := ac3 + 0) (by omega) (by omega)]
      exact G
    · rw [if_pos z1, if_pos z1, if_pos z1, if_neg z2, if_neg z2] at G
      rw [if_pos z1] at bd1 bd2 bd3
      rw [if_neg z2] at bd2 bd3
      rw [w32_id (x := ac1 + 1) (by omega) (by omega), w32_id (x := ac2 + 1) (by omega) (by omega), w32_id (x := ac3 + ss 6 (i : Int)) (by omega) (by omega)]
      exact G
    · rw [if_neg z1, if_neg z1, if_neg z1, Int.add_zero, Int.add_zero, Int.add_zero] at G
      exact G
theorem c210 {d : Nat} {h : AH} {u q s e v t : Int} {pp ss : TT} {K : AK} (c : MM h u q s e s pp ss) (h0 : 0 ≤ v) (h1 : v < pp 2 0) (k : K 0 (s_ov pp ss v t) h) : am_call (d + 2) 210 [(2, u), (0, v), (0, t)] h K := by
  have nv := c.I.nv
  have np := c.I.np
  have e0 := c.purse h0 h1
  have e1 := c.gave h0 h1
  have fb := c.fb h0 h1
  unfold s_ov at k
  refine v210 ?_
  simp only [c.M.t, c.M.f12, c.M.f14, c.M.f15, c.M.f1, c.M.t1, c.M.l1, c.M.f5, c.M.t2, c.M.l2, c.M.f6, c.M.t3, c.M.l3, c.M.f7, c.M.t4, c.M.l4, c.M.f8, c.M.t5, c.M.l5, c.M.f9, c.M.t6, c.M.l6, c.B.t, c.B.f11, c.B.f3, c.B.t1, c.B.l1, c.B.f4, c.B.t2, c.B.l2, c.B.f5, c.B.t3, c.B.l3, c.B.f6, c.B.t4, c.B.l4, c.B.f7, c.B.t5, c.B.l5, c.B.f8, c.B.t6, c.B.l6, c.B.f10, c.B.t7, c.B.l7, c.Q.t, c.Q.f1, c.Q.t1, c.Q.l1, c.Q.f3, c.Q.t2, c.Q.l2, c.Q.f4, c.Q.t3, c.Q.l3, c.Q.f5, c.Q.t4, c.Q.l4, c.Q.f7, c.Q.t5, c.Q.l5, c.Q.f11, c.Q.t6, c.Q.l6, c.Q.f12, c.Q.t7, c.Q.l7, c.Q.f13, c.Q.t8, c.Q.l8, c.Q.f14, c.Q.t9, c.Q.l9, c.Q.f16, c.Q.t10, c.Q.l10, c.nw, c.np, c.nv, c.nb, c.yr, c.pot, c.pd, c.bud, e0, e1, true_and]
  refine ⟨fun z => ⟨⟨h0, by omega⟩, ?_⟩, fun z => ⟨fun z1 => ⟨⟨h0, by omega⟩, c12 fb.1 fb.2 ?_⟩, fun z1 => ⟨fun z2 => c136 c h0 h1 ?_, fun z2 => ⟨⟨h0, by omega⟩, ?_⟩⟩⟩⟩
  · rw [if_pos z] at k
    exact k
  · rw [if_neg z, if_pos z1] at k
    show K 0 _ h
    have e : sm (bt (am_m h (s + 3) v)) 12 = s_lk pp ss v := by
      have e2 : sm (bt (am_m h (s + 3) v)) 12 = sm (f_lk ss v) 12 := sm_congr (fun i hi => by
        unfold bt f_lk
        exact c.fan h0 h1 (by omega) (by omega))
      rw [e2]
      exact sm_zero (n := (pp 1 0).toNat) (by omega) (fun i z3 z4 => by
        unfold f_lk
        exact c.S.nofan h0 (by omega) (by omega) (by omega) (Or.inr (by omega)))
    rw [e]
    exact k
  · rw [if_neg z, if_neg z1, if_pos z2] at k
    exact k
  · rw [if_neg z, if_neg z1, if_neg z2] at k
    exact k
