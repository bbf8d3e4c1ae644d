theorem s166 {d : Nat} {h : AH} {a p : Int} {A pp ss : TT} {bb : Int → Int → Int} {K : AK} (c : SM h a A pp ss bb) (h0 : 0 ≤ p) (h1 : p < pp 1 0) (k : ∀ h2, SM h2 a A pp (s_bld ss p) bb → FX (SR A pp a) h h2 → am_n h2 = am_n h → K 0 0 h2) : am_call d 166 [(2, a), (0, p)] h K := by
  have hy := c.si.1
  obtain ⟨e1, e2, e3, e4, -⟩ := c.p p h0 h1
  have c1 := c.u7 (r := p) (x := ss 0 0) h0 h1 (c.si.u7 (by omega))
  obtain ⟨g1, g2, g3, g4, -⟩ := c1.p p h0 h1
  have c2 := c1.u3 (x := w32 (ss 3 0 + ss 6 p)) c1.si.u3
  have q3 : su ss 7 p (ss 0 0) 3 0 = ss 3 0 := su_ne (by omega)
  have q6 : su ss 7 p (ss 0 0) 6 p = ss 6 p := su_ne (by omega)
  refine v166 ?_
  rw [c.t, c.m5, c.m0, e1, e2, e3, c.pt, c.pl, c1.t, c1.m5, c1.m2, c1.pt, c1.pl, g1, g2, g3, g4, q3, q6]
  refine ⟨rfl, ⟨Or.inl rfl, h0, h1⟩, rfl, ⟨rfl, by decide, by decide⟩, rfl, rfl, ⟨Or.inl rfl, h0, h1⟩, ⟨rfl, by decide, by decide⟩, rfl, k _ c2 ((FX.rf.w (Or.inr (Or.inl ⟨p, h0, h1, rfl⟩))).w (Or.inl rfl)) rfl⟩
