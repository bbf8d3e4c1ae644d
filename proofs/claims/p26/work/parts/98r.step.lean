/-! ===== the law's own jury: what writes ===== -/
/-- what stands outside of R keeps what it holds -/
def FX (R : Int → Prop) (h h' : AH) : Prop := am_n h ≤ am_n h' ∧ am_sl h' = am_sl h ∧ (∀ j, am_sx h' j = am_sx h j) ∧ (∀ b, b < am_n h → am_t h' b = am_t h b ∧ am_l h' b = am_l h b) ∧ ∀ b, b < am_n h → ¬ R b → ∀ i, am_m h' b i = am_m h b i
theorem FX.rf {R : Int → Prop} {h : AH} : FX R h h := ⟨Int.le_refl _, rfl, fun _ => rfl, fun _ _ => ⟨rfl, rfl⟩, fun _ _ _ _ => rfl⟩
theorem FX.tr {R : Int → Prop} {h h1 h2 : AH} (x : FX R h h1) (y : FX R h1 h2) : FX R h h2 := by
  obtain ⟨x1, x2, x3, x4, x5⟩ := x
  obtain ⟨y1, y2, y3, y4, y5⟩ := y
  refine ⟨by omega, y2.trans x2, fun j => (y3 j).trans (x3 j), fun b hb => ?_, fun b hb n1 i => ?_⟩
  · obtain ⟨e1, e2⟩ := x4 b hb
    obtain ⟨e3, e4⟩ := y4 b (by omega)
    exact ⟨e3.trans e1, e4.trans e2⟩
  · exact (y5 b (by omega) n1 i).trans (x5 b hb n1 i)
theorem FX.w {R : Int → Prop} {a i x : Int} {h h1 : AH} (f : FX R h h1) (ha : R a) : FX R h (am_w h1 a i x) := by
  obtain ⟨x1, x2, x3, x4, x5⟩ := f
  exact ⟨x1, x2, x3, x4, fun b hb n1 j => by rw [am_m_w, if_neg (fun z => n1 (by rw [z.1]; exact ha))]; exact x5 b hb n1 j⟩
theorem FX.fp {R : Int → Prop} {u v : Int} {h h1 h2 : AH} (f : FX R h h1) (g : FP u v h1 h2) (hu : am_n h ≤ u) (hv : am_n h ≤ v) : FX R h h2 := by
  obtain ⟨x1, x2, x3, x4, x5⟩ := f
  obtain ⟨y1, y2, y3, y4, y5⟩ := g
  refine ⟨by omega, y2.trans x2, fun j => (y3 j).trans (x3 j), fun b hb => ?_, fun b hb n1 i => ?_⟩
  · obtain ⟨e1, e2⟩ := x4 b hb
    obtain ⟨e3, e4⟩ := y4 b (by omega)
    exact ⟨e3.trans e1, e4.trans e2⟩
  · exact (y5 b (by omega) (by omega) (by omega) i).trans (x5 b hb n1 i)
/-- the cells of the law's jury that are written -/
def SR (A pp : TT) (a b : Int) : Prop := b = a ∨ (∃ i, 0 ≤ i ∧ i < pp 1 0 ∧ b = A 5 i) ∨ ∃ i, 0 ≤ i ∧ i < pp 2 0 ∧ (b = A 6 i ∨ b = A 7 i)
theorem s163 {d : Nat} {h : AH} {a : Int} {A pp ss : TT} {bb : Int → Int → Int} {K : AK} (c : SM h a A pp ss bb) (k : ∀ h2, SM h2 a A pp (s_col pp ss) bb → FX (SR A pp a) h h2 → am_n h2 = am_n h → K 0 0 h2) : am_call d 163 [(2, a)] h K := by
  have hN := c.p1
  obtain ⟨eb1, eb2, eb3⟩ := each_bd (pp := pp) c.si
  have hex : s_each pp ss = (ss 1 0).tdiv (pp 2 0) := if_pos (by omega)
  have hbud := c.si.2.1
  refine v163 ⟨c.t, c.t, by rw [c.m6]; exact c.nr.2.1, by rw [c.m6, c.vt]; decide, ?_⟩
  rw [c.m3, c.m6, c.vl]
  refine lp_in (S := AH × AV) (fun n s => (16, [(2, a), (0, ss 1 0 - s_each pp ss * (n : Int)), (2, A 2 0), (0, pp 2 0), (0, (n : Int)), s.2], [], s.1, 0, 0)) (fun n s => SM s.1 a A pp (s_pay ss (s_each pp ss) n) bb ∧ FX (SR A pp a) h s.1 ∧ am_n s.1 = am_n h) (pp 2 0).toNat (fun n s hn I nx => ?_) (fun s I => ?_) (h, (9, 0)) ⟨c, FX.rf, rfl⟩ |> fun H => by
    have := H
    rw [show ss 1 0 - s_each pp ss * ((0 : Nat) : Int) = ss 1 0 by simp] at this
    exact this
  · obtain ⟨g, y⟩ := s
    obtain ⟨c1, f1, n1⟩ := I
    dsimp only at c1 f1 n1 ⊢
    obtain ⟨e1, e2, e3, e4, e5⟩ := c1.v (n : Int) (by omega) (by omega)
    have hq := c1.si.2.2.2.1 (n : Int) (by omega) (by omega)
    have p1 : s_pay ss (s_each pp ss) n 1 0 = ss 1 0 := s_pay_ne (by decide) n
    have hle : s_each pp ss * (n : Int) ≤ s_each pp ss * pp 2 0 := Int.mul_le_mul_of_nonneg_left (by omega) eb1.1
    have hge : 0 ≤ s_each pp ss * (n : Int) := Int.mul_nonneg eb1.1 (by omega)
    have hst : s_each pp ss * ((n + 1 : Nat) : Int) = s_each pp ss * (n : Int) + s_each pp ss := by
      rw [show ((n + 1 : Nat) : Int) = (n : Int) + 1 by omega, Int.mul_add, Int.mul_one]
    have hle2 : s_each pp ss * ((n + 1 : Nat) : Int) ≤ s_each pp ss * pp 2 0 := Int.mul_le_mul_of_nonneg_left (by omega) eb1.1
    have c2 := c1.u4 (r := (n : Int)) (x := min 9999 (s_pay ss (s_each pp ss) n 4 (n : Int) + s_each pp ss)) (by omega) (by omega) (c1.si.u4 (by omega))
    have p2 : su (s_pay ss (s_each pp ss) n) 4 (n : Int) (min 9999 (s_pay ss (s_each pp ss) n 4 (n : Int) + s_each pp ss)) 1 0 = ss 1 0 := s_pay_ne (by decide) (n + 1)
    have w1 : w32 (s_each pp ss) = s_each pp ss := w32_id (by omega) (by omega)
    have w2 : w32 (s_pay ss (s_each pp ss) n 4 (n : Int) + s_each pp ss) = s_pay ss (s_each pp ss) n 4 (n : Int) + s_each pp ss := w32_id (by omega) (by omega)
    refine v163_16 ?_
    rw [c1.t, c1.m6, c1.m3, p1, e1, e2, e3, e4, c1.vt, c1.vl, ← hex, w1, w2, c2.t, c2.m6, c2.m3, p2, c2.vt, c2.vl, ← hex, w1]
    clear w1 w2
    rw [show w32 ((n : Int) + 1) = ((n + 1 : Nat) : Int) by rw [w32_id (by omega) (by omega)]; omega, show w32 (ss 1 0 - s_each pp ss * (n : Int) - s_each pp ss) = ss 1 0 - s_each pp ss * ((n + 1 : Nat) : Int) by rw [w32_id (by omega) (by omega)]; omega]
    refine ⟨fun _ => ⟨⟨Or.inl rfl, by omega, by omega⟩, (c.nn.2.2.1 _ (by omega) (by omega)).2, ⟨rfl, by decide, by decide⟩, rfl, rfl, by decide, by omega, ⟨rfl, by decide, by decide⟩, rfl, rfl, by decide, by omega, ?_⟩, fun z => absurd (show (n : Int) < pp 2 0 by omega) z⟩
    exact nx (_, (2, A 6 (n : Int))) ⟨c2, f1.w (Or.inr (Or.inr ⟨(n : Int), by omega, by omega, Or.inl rfl⟩)), n1⟩
  · obtain ⟨g, y⟩ := s
    obtain ⟨c1, f1, n1⟩ := I
    dsimp only at c1 f1 n1 ⊢
    have p2 : s_pay ss (s_each pp ss) (pp 2 0).toNat 2 0 = ss 2 0 := s_pay_ne (by decide) _
    have hpot := c.si.2.2.1
    have hx : s_each pp ss * (((pp 2 0).toNat : Nat) : Int) = s_each pp ss * pp 2 0 := by rw [show (((pp 2 0).toNat : Nat) : Int) = pp 2 0 by omega]
    refine v163_16 ?_
    rw [c1.t, c1.m1, p2, hx, w32_id (x := ss 2 0 + (ss 1 0 - s_each pp ss * pp 2 0)) (by omega) (by omega)]
    refine ⟨fun z => absurd z (by omega), fun _ => ⟨rfl, rfl, k _ (c1.u2 (c1.si.u2 (by omega))) (f1.w (Or.inl rfl)) n1⟩⟩
