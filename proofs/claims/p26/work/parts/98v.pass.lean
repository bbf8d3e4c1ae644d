/-! ===== the law's own jury: a year ===== -/
/-- the law's bans hold when the class's do, in every state -/
def HQ (pp : TT) (bb : Int → Int → Int) (tt : Int → List Op) : Prop := ∀ ss, SI pp ss → ∀ q, 0 ≤ q → q < pp 1 0 → s_hb pp ss bb q = s_bn pp ss tt q
theorem s167_27 {d : Nat} {h : AH} {a p many : Int} {A pp ss : TT} {bb : Int → Int → Int} {tt : Int → List Op} {K : AK} {nc ns : Nat} {y6 : AV} (c : SM h a A pp ss bb) (q : HQ pp bb tt) (n0 : 0 ≤ am_n h) (hp : p = s_nx pp ss tt (-1)) (p0 : 0 ≤ p) (hnc : nc + 71 ≤ 720) (hns : ns + 4564 ≤ 46000)
    (k : ∀ g y, SM g a A pp (s_buy pp ss p) bb → FX (SR A pp a) h g → am_n g ≤ am_n h + 36 → WP (d + 6) 167 (11, [(2, a), (0, w32 (many + 1)), (0, s_nx pp (s_buy pp ss p) tt (-1)), (2, A 2 0), (0, pp 2 0), (0, (((pp 2 0).toNat : Nat) : Int)), y], [], g, nc + 1 + 70, ns + 64 + 4500) K) :
    WP (d + 6) 167 (27, [(2, a), (0, many), (0, p), (2, A 2 0), (0, pp 2 0), (0, 0), y6], [], h, nc, ns) K := by
  have hN := c.p1
  have rg : p < pp 1 0 ∧ s_sh pp ss p ≠ -1 := by
    have := nxt_rg (pp := pp) (ss := ss) (tt := tt) (lo := -1) (pp 1 0).toNat
    have e : (nxt pp ss tt (-1) (pp 1 0).toNat).1 = p := hp.symm
    rw [e] at this
    rcases this with z | ⟨z1, z2, z3, z4, z5⟩
    · omega
    · exact ⟨by omega, z5⟩
  refine lp_in (S := AH × AV) (fun n s => (27, [(2, a), (0, many), (0, p), (2, A 2 0), (0, pp 2 0), (0, (n : Int)), s.2], [], s.1, nc, ns)) (fun n s => SM s.1 a A pp ss bb ∧ FX (SR A pp a) h s.1 ∧ am_n s.1 = am_n h ∧ ∀ v, 0 ≤ v → v < (n : Int) → am_m s.1 (A 6 v) 2 = ss 4 v) (pp 2 0).toNat (fun n s hn I nx => ?_) (fun s I => ?_) (h, y6) ⟨c, FX.rf, rfl, fun v v0 v1 => absurd v1 (by show ¬ v < 0; omega)⟩
  · obtain ⟨g, y⟩ := s
    obtain ⟨c1, f1, n1, tm⟩ := I
    dsimp only at c1 f1 n1 tm ⊢
    obtain ⟨e1, e2, e3, e4, -⟩ := c1.v (n : Int) (by omega) (by omega)
    refine v167_27 ?_
    rw [c1.vt, c1.vl, e1, e2, e3, e4, show w32 ((n : Int) + 1) = ((n + 1 : Nat) : Int) by rw [w32_id (by omega) (by omega)]; omega]
    refine ⟨fun _ => ⟨⟨Or.inl rfl, by omega, by omega⟩, (c.nn.2.2.1 _ (by omega) (by omega)).2, ⟨rfl, by decide, by decide⟩, ⟨rfl, by decide, by decide⟩, ?_⟩, fun z => absurd (show (n : Int) < pp 2 0 by omega) z⟩
    refine nx (am_w g (A 6 (n : Int)) 2 (ss 4 (n : Int)), (2, A 6 (n : Int))) ⟨c1.tmp (by omega) (by omega), f1.w (Or.inr (Or.inr ⟨(n : Int), by omega, by omega, Or.inl rfl⟩)), n1, fun v v0 v1 => ?_⟩
    rw [am_m_w]
    by_cases e : v = (n : Int)
    · subst e; rw [if_pos ⟨rfl, rfl⟩]
    · rw [if_neg (fun z => c.dv v (n : Int) v0 (by omega) (by omega) (by omega) e z.1)]
      exact tm v v0 (by omega)
  · obtain ⟨g, y⟩ := s
    obtain ⟨c1, f1, n1, tm⟩ := I
    dsimp only at c1 f1 n1 tm ⊢
    have rg1 := rg.1
    refine v167_27 ⟨fun z => absurd z (by omega), fun _ => ⟨⟨c1.t, by omega, by omega⟩, s165 c1 p0 rg1 (by omega) rg.2 (fun v v0 v1 => tm v v0 (by omega)) (fun g2 c2 f2 n2 => okx ⟨c2.t, s166 c2 p0 rg1 (fun g3 c3 f3 n3 => okx ⟨⟨c3.t, by omega, by omega⟩, ?_⟩)⟩)⟩⟩
    have m2 := f2.1
    have F := (f1.tr f2).tr f3
    exact s164 c3 (q _ c3.si) (by omega) (fun g4 f4 n4 => okx (k g4 _ (c3.fp f4 (Int.le_refl _) (Int.le_refl _)) (F.fp f4 (by omega) (by omega)) (by omega)))
