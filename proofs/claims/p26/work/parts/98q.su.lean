/-! ===== the law's own jury under writes ===== -/
theorem ne_t {h : AH} {x y : Int} {s t : Nat} (hx : am_t h x = s) (hy : am_t h y = t) (hn : ¬ s = t) : ¬ x = y := fun z => hn (by rw [← hx, ← hy, z])
theorem SM.u0 {h : AH} {a x : Int} {A pp ss : TT} {bb : Int → Int → Int} (c : SM h a A pp ss bb) (hs : SI pp (su ss 0 (0) x)) : SM (am_w h (a) 0 x) a A pp (su ss 0 (0) x) bb := by
  have tR : am_t h (a) = 7 := c.t
  have n0 : ¬ A 0 0 = a := ne_t c.caps.1 tR (by decide)
  have n1 : ¬ A 1 0 = a := ne_t c.pt tR (by decide)
  have n2 : ¬ A 2 0 = a := ne_t c.vt tR (by decide)
  have n3 : ¬ A 3 0 = a := ne_t c.lt tR (by decide)
  have n4 : ¬ A 4 0 = a := ne_t c.bt tR (by decide)
  have n5 : ∀ i, 0 ≤ i → i < pp 1 0 → ¬ A 5 i = a := fun i i0 i1 => ne_t (c.p i i0 i1).2.1 tR (by decide)
  have n6 : ∀ i, 0 ≤ i → i < pp 2 0 → ¬ A 6 i = a := fun i i0 i1 => ne_t (c.v i i0 i1).2.1 tR (by decide)
  have n7 : ∀ i, 0 ≤ i → i < pp 2 0 → ¬ A 7 i = a := fun i i0 i1 => ne_t (c.l i i0 i1).2.1 tR (by decide)
  have n8 : ∀ i, 0 ≤ i → i < pp 3 0 → ¬ A 8 i = a := fun i i0 i1 => ne_t (c.b i i0 i1).2.1 tR (by decide)
  have e : ∀ b q, ¬ (b = a ∧ q = 0) → am_m (am_w h (a) (0) x) b q = am_m h b q := fun b q hn => by rw [am_m_w, if_neg hn]
  have e9 : am_m (am_w h (a) (0) x) (a) (0) = x := by rw [am_m_w, if_pos ⟨rfl, rfl⟩]
  have s : ∀ k i, ¬ (k = 0 ∧ i = 0) → su ss 0 (0) x k i = ss k i := fun k i hn => su_ne hn
  have s9 : su ss 0 (0) x 0 (0) = x := su_eq
  refine ⟨c.t, e9.trans s9.symm, (e _ _ (by omega)).trans (c.m1.trans (s _ _ (by omega)).symm), (e _ _ (by omega)).trans (c.m2.trans (s _ _ (by omega)).symm), (e _ _ (by omega)).trans (c.m3.trans (s _ _ (by omega)).symm), (e _ _ (by omega)).trans c.m4, (e _ _ (by omega)).trans c.m5, (e _ _ (by omega)).trans c.m6, (e _ _ (by omega)).trans c.m7, (e _ _ (by omega)).trans c.m8, (e _ _ (by omega)).trans c.m9, ⟨c.caps.1, c.caps.2.1, fun i i0 i1 => (e _ _ (fun z => n0 z.1)).trans (c.caps.2.2 i i0 i1)⟩, c.pt, c.pl, fun i i0 i1 => ?_, c.vt, c.vl, fun i i0 i1 => ?_, c.lt, c.ll, fun i i0 i1 => ?_, c.bt, c.bl, fun i i0 i1 => ?_, c.br, c.pi, hs, c.p1, c.nn, c.nr, c.bd, c.dp, c.dv, c.dl, c.dpv, c.dc, c.db⟩
  · obtain ⟨e1, e2, e3, e4, e5, e6, e7, e8⟩ := c.p i i0 i1
    exact ⟨(e _ _ (fun z => n1 z.1)).trans e1, e2, e3, (e _ _ (fun z => n5 i i0 i1 z.1)).trans (e4.trans (s _ _ (by omega)).symm), (e _ _ (fun z => n5 i i0 i1 z.1)).trans e5, (e _ _ (fun z => n5 i i0 i1 z.1)).trans e6, (e _ _ (fun z => n5 i i0 i1 z.1)).trans (e7.trans (s _ _ (by omega)).symm), (e _ _ (fun z => n5 i i0 i1 z.1)).trans (e8.trans (s _ _ (by omega)).symm)⟩
  · obtain ⟨e1, e2, e3, e4, e5⟩ := c.v i i0 i1
    exact ⟨(e _ _ (fun z => n2 z.1)).trans e1, e2, e3, (e _ _ (fun z => n6 i i0 i1 z.1)).trans (e4.trans (s _ _ (by omega)).symm), (e _ _ (fun z => n6 i i0 i1 z.1)).trans (e5.trans (s _ _ (by omega)).symm)⟩
  · obtain ⟨e1, e2, e3, e4⟩ := c.l i i0 i1
    exact ⟨(e _ _ (fun z => n3 z.1)).trans e1, e2, e3, fun q q0 q1 => (e _ _ (fun z => n7 i i0 i1 z.1)).trans ((e4 q q0 q1).trans (s _ _ (by omega)).symm)⟩
  · obtain ⟨e1, e2, e3, e4⟩ := c.b i i0 i1
    exact ⟨(e _ _ (fun z => n4 z.1)).trans e1, e2, e3, fun q q0 q1 => (e _ _ (fun z => n8 i i0 i1 z.1)).trans (e4 q q0 q1)⟩
theorem SM.u2 {h : AH} {a x : Int} {A pp ss : TT} {bb : Int → Int → Int} (c : SM h a A pp ss bb) (hs : SI pp (su ss 2 (0) x)) : SM (am_w h (a) 1 x) a A pp (su ss 2 (0) x) bb := by
  have tR : am_t h (a) = 7 := c.t
  have n0 : ¬ A 0 0 = a := ne_t c.caps.1 tR (by decide)
  have n1 : ¬ A 1 0 = a := ne_t c.pt tR (by decide)
  have n2 : ¬ A 2 0 = a := ne_t c.vt tR (by decide)
  have n3 : ¬ A 3 0 = a := ne_t c.lt tR (by decide)
  have n4 : ¬ A 4 0 = a := ne_t c.bt tR (by decide)
  have n5 : ∀ i, 0 ≤ i → i < pp 1 0 → ¬ A 5 i = a := fun i i0 i1 => ne_t (c.p i i0 i1).2.1 tR (by decide)
  have n6 : ∀ i, 0 ≤ i → i < pp 2 0 → ¬ A 6 i = a := fun i i0 i1 => ne_t (c.v i i0 i1).2.1 tR (by decide)
  have n7 : ∀ i, 0 ≤ i → i < pp 2 0 → ¬ A 7 i = a := fun i i0 i1 => ne_t (c.l i i0 i1).2.1 tR (by decide)
  have n8 : ∀ i, 0 ≤ i → i < pp 3 0 → ¬ A 8 i = a := fun i i0 i1 => ne_t (c.b i i0 i1).2.1 tR (by decide)
  have e : ∀ b q, ¬ (b = a ∧ q = 1) → am_m (am_w h (a) (1) x) b q = am_m h b q := fun b q hn => by rw [am_m_w, if_neg hn]
  have e9 : am_m (am_w h (a) (1) x) (a) (1) = x := by rw [am_m_w, if_pos ⟨rfl, rfl⟩]
  have s : ∀ k i, ¬ (k = 2 ∧ i = 0) → su ss 2 (0) x k i = ss k i := fun k i hn => su_ne hn
  have s9 : su ss 2 (0) x 2 (0) = x := su_eq
  refine ⟨c.t, (e _ _ (by omega)).trans (c.m0.trans (s _ _ (by omega)).symm), e9.trans s9.symm, (e _ _ (by omega)).trans (c.m2.trans (s _ _ (by omega)).symm), (e _ _ (by omega)).trans (c.m3.trans (s _ _ (by omega)).symm), (e _ _ (by omega)).trans c.m4, (e _ _ (by omega)).trans c.m5, (e _ _ (by omega)).trans c.m6, (e _ _ (by omega)).trans c.m7, (e _ _ (by omega)).trans c.m8, (e _ _ (by omega)).trans c.m9, ⟨c.caps.1, c.caps.2.1, fun i i0 i1 => (e _ _ (fun z => n0 z.1)).trans (c.caps.2.2 i i0 i1)⟩, c.pt, c.pl, fun i i0 i1 => ?_, c.vt, c.vl, fun i i0 i1 => ?_, c.lt, c.ll, fun i i0 i1 => ?_, c.bt, c.bl, fun i i0 i1 => ?_, c.br, c.pi, hs, c.p1, c.nn, c.nr, c.bd, c.dp, c.dv, c.dl, c.dpv, c.dc, c.db⟩
  · obtain ⟨e1, e2, e3, e4, e5, e6, e7, e8⟩ := c.p i i0 i1
    exact ⟨(e _ _ (fun z => n1 z.1)).trans e1, e2, e3, (e _ _ (fun z => n5 i i0 i1 z.1)).trans (e4.trans (s _ _ (by omega)).symm), (e _ _ (fun z => n5 i i0 i1 z.1)).trans e5, (e _ _ (fun z => n5 i i0 i1 z.1)).trans e6, (e _ _ (fun z => n5 i i0 i1 z.1)).trans (e7.trans (s _ _ (by omega)).symm), (e _ _ (fun z => n5 i i0 i1 z.1)).trans (e8.trans (s _ _ (by omega)).symm)⟩
  · obtain ⟨e1, e2, e3, e4, e5⟩ := c.v i i0 i1
    exact ⟨(e _ _ (fun z => n2 z.1)).trans e1, e2, e3, (e _ _ (fun z => n6 i i0 i1 z.1)).trans (e4.trans (s _ _ (by omega)).symm), (e _ _ (fun z => n6 i i0 i1 z.1)).trans (e5.trans (s _ _ (by omega)).symm)⟩
  · obtain ⟨e1, e2, e3, e4⟩ := c.l i i0 i1
    exact ⟨(e _ _ (fun z => n3 z.1)).trans e1, e2, e3, fun q q0 q1 => (e _ _ (fun z => n7 i i0 i1 z.1)).trans ((e4 q q0 q1).trans (s _ _ (by omega)).symm)⟩
  · obtain ⟨e1, e2, e3, e4⟩ := c.b i i0 i1
    exact ⟨(e _ _ (fun z => n4 z.1)).trans e1, e2, e3, fun q q0 q1 => (e _ _ (fun z => n8 i i0 i1 z.1)).trans (e4 q q0 q1)⟩
theorem SM.u3 {h : AH} {a x : Int} {A pp ss : TT} {bb : Int → Int → Int} (c : SM h a A pp ss bb) (hs : SI pp (su ss 3 (0) x)) : SM (am_w h (a) 2 x) a A pp (su ss 3 (0) x) bb := by
  have tR : am_t h (a) = 7 := c.t
  have n0 : ¬ A 0 0 = a := ne_t c.caps.1 tR (by decide)
  have n1 : ¬ A 1 0 = a := ne_t c.pt tR (by decide)
  have n2 : ¬ A 2 0 = a := ne_t c.vt tR (by decide)
  have n3 : ¬ A 3 0 = a := ne_t c.lt tR (by decide)
  have n4 : ¬ A 4 0 = a := ne_t c.bt tR (by decide)
  have n5 : ∀ i, 0 ≤ i → i < pp 1 0 → ¬ A 5 i = a := fun i i0 i1 => ne_t (c.p i i0 i1).2.1 tR (by decide)
  have n6 : ∀ i, 0 ≤ i → i < pp 2 0 → ¬ A 6 i = a := fun i i0 i1 => ne_t (c.v i i0 i1).2.1 tR (by decide)
  have n7 : ∀ i, 0 ≤ i → i < pp 2 0 → ¬ A 7 i = a := fun i i0 i1 => ne_t (c.l i i0 i1).2.1 tR (by decide)
  have n8 : ∀ i, 0 ≤ i → i < pp 3 0 → ¬ A 8 i = a := fun i i0 i1 => ne_t (c.b i i0 i1).2.1 tR (by decide)
  have e : ∀ b q, ¬ (b = a ∧ q = 2) → am_m (am_w h (a) (2) x) b q = am_m h b q := fun b q hn => by rw [am_m_w, if_neg hn]
  have e9 : am_m (am_w h (a) (2) x) (a) (2) = x := by rw [am_m_w, if_pos ⟨rfl, rfl⟩]
  have s : ∀ k i, ¬ (k = 3 ∧ i = 0) → su ss 3 (0) x k i = ss k i := fun k i hn => su_ne hn
  have s9 : su ss 3 (0) x 3 (0) = x := su_eq
  refine ⟨c.t, (e _ _ (by omega)).trans (c.m0.trans (s _ _ (by omega)).symm), (e _ _ (by omega)).trans (c.m1.trans (s _ _ (by omega)).symm), e9.trans s9.symm, (e _ _ (by omega)).trans (c.m3.trans (s _ _ (by omega)).symm), (e _ _ (by omega)).trans c.m4, (e _ _ (by omega)).trans c.m5, (e _ _ (by omega)).trans c.m6, (e _ _ (by omega)).trans c.m7, (e _ _ (by omega)).trans c.m8, (e _ _ (by omega)).trans c.m9, ⟨c.caps.1, c.caps.2.1, fun i i0 i1 => (e _ _ (fun z => n0 z.1)).trans (c.caps.2.2 i i0 i1)⟩, c.pt, c.pl, fun i i0 i1 => ?_, c.vt, c.vl, fun i i0 i1 => ?_, c.lt, c.ll, fun i i0 i1 => ?_, c.bt, c.bl, fun i i0 i1 => ?_, c.br, c.pi, hs, c.p1, c.nn, c.nr, c.bd, c.dp, c.dv, c.dl, c.dpv, c.dc, c.db⟩
  · obtain ⟨e1, e2, e3, e4, e5, e6, e7, e8⟩ := c.p i i0 i1
    exact ⟨(e _ _ (fun z => n1 z.1)).trans e1, e2, e3, (e _ _ (fun z => n5 i i0 i1 z.1)).trans (e4.trans (s _ _ (by omega)).symm), (e _ _ (fun z => n5 i i0 i1 z.1)).trans e5, (e _ _ (fun z => n5 i i0 i1 z.1)).trans e6, (e _ _ (fun z => n5 i i0 i1 z.1)).trans (e7.trans (s _ _ (by omega)).symm), (e _ _ (fun z => n5 i i0 i1 z.1)).trans (e8.trans (s _ _ (by omega)).symm)⟩
  · obtain ⟨e1, e2, e3, e4, e5⟩ := c.v i i0 i1
    exact ⟨(e _ _ (fun z => n2 z.1)).trans e1, e2, e3, (e _ _ (fun z => n6 i i0 i1 z.1)).trans (e4.trans (s _ _ (by omega)).symm), (e _ _ (fun z => n6 i i0 i1 z.1)).trans (e5.trans (s _ _ (by omega)).symm)⟩
  · obtain ⟨e1, e2, e3, e4⟩ := c.l i i0 i1
    exact ⟨(e _ _ (fun z => n3 z.1)).trans e1, e2, e3, fun q q0 q1 => (e _ _ (fun z => n7 i i0 i1 z.1)).trans ((e4 q q0 q1).trans (s _ _ (by omega)).symm)⟩
  · obtain ⟨e1, e2, e3, e4⟩ := c.b i i0 i1
    exact ⟨(e _ _ (fun z => n4 z.1)).trans e1, e2, e3, fun q q0 q1 => (e _ _ (fun z => n8 i i0 i1 z.1)).trans (e4 q q0 q1)⟩
theorem SM.u1 {h : AH} {a x : Int} {A pp ss : TT} {bb : Int → Int → Int} (c : SM h a A pp ss bb) (hs : SI pp (su ss 1 (0) x)) : SM (am_w h (a) 3 x) a A pp (su ss 1 (0) x) bb := by
  have tR : am_t h (a) = 7 := c.t
  have n0 : ¬ A 0 0 = a := ne_t c.caps.1 tR (by decide)
  have n1 : ¬ A 1 0 = a := ne_t c.pt tR (by decide)
  have n2 : ¬ A 2 0 = a := ne_t c.vt tR (by decide)
  have n3 : ¬ A 3 0 = a := ne_t c.lt tR (by decide)
  have n4 : ¬ A 4 0 = a := ne_t c.bt tR (by decide)
  have n5 : ∀ i, 0 ≤ i → i < pp 1 0 → ¬ A 5 i = a := fun i i0 i1 => ne_t (c.p i i0 i1).2.1 tR (by decide)
  have n6 : ∀ i, 0 ≤ i → i < pp 2 0 → ¬ A 6 i = a := fun i i0 i1 => ne_t (c.v i i0 i1).2.1 tR (by decide)
  have n7 : ∀ i, 0 ≤ i → i < pp 2 0 → ¬ A 7 i = a := fun i i0 i1 => ne_t (c.l i i0 i1).2.1 tR (by decide)
  have n8 : ∀ i, 0 ≤ i → i < pp 3 0 → ¬ A 8 i = a := fun i i0 i1 => ne_t (c.b i i0 i1).2.1 tR (by decide)
  have e : ∀ b q, ¬ (b = a ∧ q = 3) → am_m (am_w h (a) (3) x) b q = am_m h b q := fun b q hn => by rw [am_m_w, if_neg hn]
  have e9 : am_m (am_w h (a) (3) x) (a) (3) = x := by rw [am_m_w, if_pos ⟨rfl, rfl⟩]
  have s : ∀ k i, ¬ (k = 1 ∧ i = 0) → su ss 1 (0) x k i = ss k i := fun k i hn => su_ne hn
  have s9 : su ss 1 (0) x 1 (0) = x := su_eq
  refine ⟨c.t, (e _ _ (by omega)).trans (c.m0.trans (s _ _ (by omega)).symm), (e _ _ (by omega)).trans (c.m1.trans (s _ _ (by omega)).symm), (e _ _ (by omega)).trans (c.m2.trans (s _ _ (by omega)).symm), e9.trans s9.symm, (e _ _ (by omega)).trans c.m4, (e _ _ (by omega)).trans c.m5, (e _ _ (by omega)).trans c.m6, (e _ _ (by omega)).trans c.m7, (e _ _ (by omega)).trans c.m8, (e _ _ (by omega)).trans c.m9, ⟨c.caps.1, c.caps.2.1, fun i i0 i1 => (e _ _ (fun z => n0 z.1)).trans (c.caps.2.2 i i0 i1)⟩, c.pt, c.pl, fun i i0 i1 => ?_, c.vt, c.vl, fun i i0 i1 => ?_, c.lt, c.ll, fun i i0 i1 => ?_, c.bt, c.bl, fun i i0 i1 => ?_, c.br, c.pi, hs, c.p1, c.nn, c.nr, c.bd, c.dp, c.dv, c.dl, c.dpv, c.dc, c.db⟩
  · obtain ⟨e1, e2, e3, e4, e5, e6, e7, e8⟩ := c.p i i0 i1
    exact ⟨(e _ _ (fun z => n1 z.1)).trans e1, e2, e3, (e _ _ (fun z => n5 i i0 i1 z.1)).trans (e4.trans (s _ _ (by omega)).symm), (e _ _ (fun z => n5 i i0 i1 z.1)).trans e5, (e _ _ (fun z => n5 i i0 i1 z.1)).trans e6, (e _ _ (fun z => n5 i i0 i1 z.1)).trans (e7.trans (s _ _ (by omega)).symm), (e _ _ (fun z => n5 i i0 i1 z.1)).trans (e8.trans (s _ _ (by omega)).symm)⟩
  · obtain ⟨e1, e2, e3, e4, e5⟩ := c.v i i0 i1
    exact ⟨(e _ _ (fun z => n2 z.1)).trans e1, e2, e3, (e _ _ (fun z => n6 i i0 i1 z.1)).trans (e4.trans (s _ _ (by omega)).symm), (e _ _ (fun z => n6 i i0 i1 z.1)).trans (e5.trans (s _ _ (by omega)).symm)⟩
  · obtain ⟨e1, e2, e3, e4⟩ := c.l i i0 i1
    exact ⟨(e _ _ (fun z => n3 z.1)).trans e1, e2, e3, fun q q0 q1 => (e _ _ (fun z => n7 i i0 i1 z.1)).trans ((e4 q q0 q1).trans (s _ _ (by omega)).symm)⟩
  · obtain ⟨e1, e2, e3, e4⟩ := c.b i i0 i1
    exact ⟨(e _ _ (fun z => n4 z.1)).trans e1, e2, e3, fun q q0 q1 => (e _ _ (fun z => n8 i i0 i1 z.1)).trans (e4 q q0 q1)⟩
theorem SM.u4 {h : AH} {a x : Int} {A pp ss : TT} {bb : Int → Int → Int} (c : SM h a A pp ss bb) {r : Int} (r0 : 0 ≤ r) (r1 : r < pp 2 0) (hs : SI pp (su ss 4 (r) x)) : SM (am_w h (A 6 r) 0 x) a A pp (su ss 4 (r) x) bb := by
  have tR : am_t h (A 6 r) = 20 := (c.v r r0 r1).2.1
  have na : ¬ a = A 6 r := ne_t c.t tR (by decide)
  have n0 : ¬ A 0 0 = A 6 r := fun z => c.dc.2 r r0 r1 z.symm
  have n1 : ¬ A 1 0 = A 6 r := ne_t c.pt tR (by decide)
  have n2 : ¬ A 2 0 = A 6 r := ne_t c.vt tR (by decide)
  have n3 : ¬ A 3 0 = A 6 r := ne_t c.lt tR (by decide)
  have n4 : ¬ A 4 0 = A 6 r := ne_t c.bt tR (by decide)
  have n5 : ∀ i, 0 ≤ i → i < pp 1 0 → ¬ A 5 i = A 6 r := fun i i0 i1 => c.dpv i r i0 i1 r0 r1
  have n6 : ∀ i, 0 ≤ i → i < pp 2 0 → ¬ i = r → ¬ A 6 i = A 6 r := fun i i0 i1 ir => c.dv i r i0 i1 r0 r1 ir
  have n7 : ∀ i, 0 ≤ i → i < pp 2 0 → ¬ A 7 i = A 6 r := fun i i0 i1 => ne_t (c.l i i0 i1).2.1 tR (by decide)
  have n8 : ∀ i, 0 ≤ i → i < pp 3 0 → ¬ A 8 i = A 6 r := fun i i0 i1 => fun z => (c.db i i0 i1).2 r r0 r1 z.symm
  have e : ∀ b q, ¬ (b = A 6 r ∧ q = 0) → am_m (am_w h (A 6 r) (0) x) b q = am_m h b q := fun b q hn => by rw [am_m_w, if_neg hn]
  have e9 : am_m (am_w h (A 6 r) (0) x) (A 6 r) (0) = x := by rw [am_m_w, if_pos ⟨rfl, rfl⟩]
  have s : ∀ k i, ¬ (k = 4 ∧ i = r) → su ss 4 (r) x k i = ss k i := fun k i hn => su_ne hn
  have s9 : su ss 4 (r) x 4 (r) = x := su_eq
  refine ⟨c.t, (e _ _ (fun z => na z.1)).trans (c.m0.trans (s _ _ (by omega)).symm), (e _ _ (fun z => na z.1)).trans (c.m1.trans (s _ _ (by omega)).symm), (e _ _ (fun z => na z.1)).trans (c.m2.trans (s _ _ (by omega)).symm), (e _ _ (fun z => na z.1)).trans (c.m3.trans (s _ _ (by omega)).symm), (e _ _ (fun z => na z.1)).trans c.m4, (e _ _ (fun z => na z.1)).trans c.m5, (e _ _ (fun z => na z.1)).trans c.m6, (e _ _ (fun z => na z.1)).trans c.m7, (e _ _ (fun z => na z.1)).trans c.m8, (e _ _ (fun z => na z.1)).trans c.m9, ⟨c.caps.1, c.caps.2.1, fun i i0 i1 => (e _ _ (fun z => n0 z.1)).trans (c.caps.2.2 i i0 i1)⟩, c.pt, c.pl, fun i i0 i1 => ?_, c.vt, c.vl, fun i i0 i1 => ?_, c.lt, c.ll, fun i i0 i1 => ?_, c.bt, c.bl, fun i i0 i1 => ?_, c.br, c.pi, hs, c.p1, c.nn, c.nr, c.bd, c.dp, c.dv, c.dl, c.dpv, c.dc, c.db⟩
  · obtain ⟨e1, e2, e3, e4, e5, e6, e7, e8⟩ := c.p i i0 i1
    exact ⟨(e _ _ (fun z => n1 z.1)).trans e1, e2, e3, (e _ _ (fun z => n5 i i0 i1 z.1)).trans (e4.trans (s _ _ (by omega)).symm), (e _ _ (fun z => n5 i i0 i1 z.1)).trans e5, (e _ _ (fun z => n5 i i0 i1 z.1)).trans e6, (e _ _ (fun z => n5 i i0 i1 z.1)).trans (e7.trans (s _ _ (by omega)).symm), (e _ _ (fun z => n5 i i0 i1 z.1)).trans (e8.trans (s _ _ (by omega)).symm)⟩
  · obtain ⟨e1, e2, e3, e4, e5⟩ := c.v i i0 i1
    by_cases ir : i = r
    · subst ir
      exact ⟨(e _ _ (fun z => n2 z.1)).trans e1, e2, e3, e9.trans s9.symm, (e _ _ (by omega)).trans (e5.trans (s _ _ (by omega)).symm)⟩
    · exact ⟨(e _ _ (fun z => n2 z.1)).trans e1, e2, e3, (e _ _ (fun z => n6 i i0 i1 ir z.1)).trans (e4.trans (s _ _ (by omega)).symm), (e _ _ (fun z => n6 i i0 i1 ir z.1)).trans (e5.trans (s _ _ (by omega)).symm)⟩
  · obtain ⟨e1, e2, e3, e4⟩ := c.l i i0 i1
    exact ⟨(e _ _ (fun z => n3 z.1)).trans e1, e2, e3, fun q q0 q1 => (e _ _ (fun z => n7 i i0 i1 z.1)).trans ((e4 q q0 q1).trans (s _ _ (by omega)).symm)⟩
  · obtain ⟨e1, e2, e3, e4⟩ := c.b i i0 i1
    exact ⟨(e _ _ (fun z => n4 z.1)).trans e1, e2, e3, fun q q0 q1 => (e _ _ (fun z => n8 i i0 i1 z.1)).trans (e4 q q0 q1)⟩
theorem SM.u5 {h : AH} {a x : Int} {A pp ss : TT} {bb : Int → Int → Int} (c : SM h a A pp ss bb) {r : Int} (r0 : 0 ≤ r) (r1 : r < pp 2 0) (hs : SI pp (su ss 5 (r) x)) : SM (am_w h (A 6 r) 1 x) a A pp (su ss 5 (r) x) bb := by
  have tR : am_t h (A 6 r) = 20 := (c.v r r0 r1).2.1
  have na : ¬ a = A 6 r := ne_t c.t tR (by decide)
  have n0 : ¬ A 0 0 = A 6 r := fun z => c.dc.2 r r0 r1 z.symm
  have n1 : ¬ A 1 0 = A 6 r := ne_t c.pt tR (by decide)
  have n2 : ¬ A 2 0 = A 6 r := ne_t c.vt tR (by decide)
  have n3 : ¬ A 3 0 = A 6 r := ne_t c.lt tR (by decide)
  have n4 : ¬ A 4 0 = A 6 r := ne_t c.bt tR (by decide)
  have n5 : ∀ i, 0 ≤ i → i < pp 1 0 → ¬ A 5 i = A 6 r := fun i i0 i1 => c.dpv i r i0 i1 r0 r1
  have n6 : ∀ i, 0 ≤ i → i < pp 2 0 → ¬ i = r → ¬ A 6 i = A 6 r := fun i i0 i1 ir => c.dv i r i0 i1 r0 r1 ir
  have n7 : ∀ i, 0 ≤ i → i < pp 2 0 → ¬ A 7 i = A 6 r := fun i i0 i1 => ne_t (c.l i i0 i1).2.1 tR (by decide)
  have n8 : ∀ i, 0 ≤ i → i < pp 3 0 → ¬ A 8 i = A 6 r := fun i i0 i1 => fun z => (c.db i i0 i1).2 r r0 r1 z.symm
  have e : ∀ b q, ¬ (b = A 6 r ∧ q = 1) → am_m (am_w h (A 6 r) (1) x) b q = am_m h b q := fun b q hn => by rw [am_m_w, if_neg hn]
  have e9 : am_m (am_w h (A 6 r) (1) x) (A 6 r) (1) = x := by rw [am_m_w, if_pos ⟨rfl, rfl⟩]
  have s : ∀ k i, ¬ (k = 5 ∧ i = r) → su ss 5 (r) x k i = ss k i := fun k i hn => su_ne hn
  have s9 : su ss 5 (r) x 5 (r) = x := su_eq
  refine ⟨c.t, (e _ _ (fun z => na z.1)).trans (c.m0.trans (s _ _ (by omega)).symm), (e _ _ (fun z => na z.1)).trans (c.m1.trans (s _ _ (by omega)).symm), (e _ _ (fun z => na z.1)).trans (c.m2.trans (s _ _ (by omega)).symm), (e _ _ (fun z => na z.1)).trans (c.m3.trans (s _ _ (by omega)).symm), (e _ _ (fun z => na z.1)).trans c.m4, (e _ _ (fun z => na z.1)).trans c.m5, (e _ _ (fun z => na z.1)).trans c.m6, (e _ _ (fun z => na z.1)).trans c.m7, (e _ _ (fun z => na z.1)).trans c.m8, (e _ _ (fun z => na z.1)).trans c.m9, ⟨c.caps.1, c.caps.2.1, fun i i0 i1 => (e _ _ (fun z => n0 z.1)).trans (c.caps.2.2 i i0 i1)⟩, c.pt, c.pl, fun i i0 i1 => ?_, c.vt, c.vl, fun i i0 i1 => ?_, c.lt, c.ll, fun i i0 i1 => ?_, c.bt, c.bl, fun i i0 i1 => ?_, c.br, c.pi, hs, c.p1, c.nn, c.nr, c.bd, c.dp, c.dv, c.dl, c.dpv, c.dc, c.db⟩
  · obtain ⟨e1, e2, e3, e4, e5, e6, e7, e8⟩ := c.p i i0 i1
    exact ⟨(e _ _ (fun z => n1 z.1)).trans e1, e2, e3, (e _ _ (fun z => n5 i i0 i1 z.1)).trans (e4.trans (s _ _ (by omega)).symm), (e _ _ (fun z => n5 i i0 i1 z.1)).trans e5, (e _ _ (fun z => n5 i i0 i1 z.1)).trans e6, (e _ _ (fun z => n5 i i0 i1 z.1)).trans (e7.trans (s _ _ (by omega)).symm), (e _ _ (fun z => n5 i i0 i1 z.1)).trans (e8.trans (s _ _ (by omega)).symm)⟩
  · obtain ⟨e1, e2, e3, e4, e5⟩ := c.v i i0 i1
    by_cases ir : i = r
    · subst ir
      exact ⟨(e _ _ (fun z => n2 z.1)).trans e1, e2, e3, (e _ _ (by omega)).trans (e4.trans (s _ _ (by omega)).symm), e9.trans s9.symm⟩
    · exact ⟨(e _ _ (fun z => n2 z.1)).trans e1, e2, e3, (e _ _ (fun z => n6 i i0 i1 ir z.1)).trans (e4.trans (s _ _ (by omega)).symm), (e _ _ (fun z => n6 i i0 i1 ir z.1)).trans (e5.trans (s _ _ (by omega)).symm)⟩
  · obtain ⟨e1, e2, e3, e4⟩ := c.l i i0 i1
    exact ⟨(e _ _ (fun z => n3 z.1)).trans e1, e2, e3, fun q q0 q1 => (e _ _ (fun z => n7 i i0 i1 z.1)).trans ((e4 q q0 q1).trans (s _ _ (by omega)).symm)⟩
  · obtain ⟨e1, e2, e3, e4⟩ := c.b i i0 i1
    exact ⟨(e _ _ (fun z => n4 z.1)).trans e1, e2, e3, fun q q0 q1 => (e _ _ (fun z => n8 i i0 i1 z.1)).trans (e4 q q0 q1)⟩
theorem SM.tmp {h : AH} {a x : Int} {A pp ss : TT} {bb : Int → Int → Int} (c : SM h a A pp ss bb) {r : Int} (r0 : 0 ≤ r) (r1 : r < pp 2 0) : SM (am_w h (A 6 r) 2 x) a A pp ss bb := by
  have tR : am_t h (A 6 r) = 20 := (c.v r r0 r1).2.1
  have na : ¬ a = A 6 r := ne_t c.t tR (by decide)
  have n0 : ¬ A 0 0 = A 6 r := fun z => c.dc.2 r r0 r1 z.symm
  have n1 : ¬ A 1 0 = A 6 r := ne_t c.pt tR (by decide)
  have n2 : ¬ A 2 0 = A 6 r := ne_t c.vt tR (by decide)
  have n3 : ¬ A 3 0 = A 6 r := ne_t c.lt tR (by decide)
  have n4 : ¬ A 4 0 = A 6 r := ne_t c.bt tR (by decide)
  have n5 : ∀ i, 0 ≤ i → i < pp 1 0 → ¬ A 5 i = A 6 r := fun i i0 i1 => c.dpv i r i0 i1 r0 r1
  have n6 : ∀ i, 0 ≤ i → i < pp 2 0 → ¬ i = r → ¬ A 6 i = A 6 r := fun i i0 i1 ir => c.dv i r i0 i1 r0 r1 ir
  have n7 : ∀ i, 0 ≤ i → i < pp 2 0 → ¬ A 7 i = A 6 r := fun i i0 i1 => ne_t (c.l i i0 i1).2.1 tR (by decide)
  have n8 : ∀ i, 0 ≤ i → i < pp 3 0 → ¬ A 8 i = A 6 r := fun i i0 i1 => fun z => (c.db i i0 i1).2 r r0 r1 z.symm
  have e : ∀ b q, ¬ (b = A 6 r ∧ q = 2) → am_m (am_w h (A 6 r) (2) x) b q = am_m h b q := fun b q hn => by rw [am_m_w, if_neg hn]
  have e9 : am_m (am_w h (A 6 r) (2) x) (A 6 r) (2) = x := by rw [am_m_w, if_pos ⟨rfl, rfl⟩]
  refine ⟨c.t, (e _ _ (fun z => na z.1)).trans (c.m0), (e _ _ (fun z => na z.1)).trans (c.m1), (e _ _ (fun z => na z.1)).trans (c.m2), (e _ _ (fun z => na z.1)).trans (c.m3), (e _ _ (fun z => na z.1)).trans c.m4, (e _ _ (fun z => na z.1)).trans c.m5, (e _ _ (fun z => na z.1)).trans c.m6, (e _ _ (fun z => na z.1)).trans c.m7, (e _ _ (fun z => na z.1)).trans c.m8, (e _ _ (fun z => na z.1)).trans c.m9, ⟨c.caps.1, c.caps.2.1, fun i i0 i1 => (e _ _ (fun z => n0 z.1)).trans (c.caps.2.2 i i0 i1)⟩, c.pt, c.pl, fun i i0 i1 => ?_, c.vt, c.vl, fun i i0 i1 => ?_, c.lt, c.ll, fun i i0 i1 => ?_, c.bt, c.bl, fun i i0 i1 => ?_, c.br, c.pi, c.si, c.p1, c.nn, c.nr, c.bd, c.dp, c.dv, c.dl, c.dpv, c.dc, c.db⟩
  · obtain ⟨e1, e2, e3, e4, e5, e6, e7, e8⟩ := c.p i i0 i1
    exact ⟨(e _ _ (fun z => n1 z.1)).trans e1, e2, e3, (e _ _ (fun z => n5 i i0 i1 z.1)).trans e4, (e _ _ (fun z => n5 i i0 i1 z.1)).trans e5, (e _ _ (fun z => n5 i i0 i1 z.1)).trans e6, (e _ _ (fun z => n5 i i0 i1 z.1)).trans e7, (e _ _ (fun z => n5 i i0 i1 z.1)).trans e8⟩
  · obtain ⟨e1, e2, e3, e4, e5⟩ := c.v i i0 i1
    by_cases ir : i = r
    · subst ir
      exact ⟨(e _ _ (fun z => n2 z.1)).trans e1, e2, e3, (e _ _ (by omega)).trans e4, (e _ _ (by omega)).trans e5⟩
    · exact ⟨(e _ _ (fun z => n2 z.1)).trans e1, e2, e3, (e _ _ (fun z => n6 i i0 i1 ir z.1)).trans e4, (e _ _ (fun z => n6 i i0 i1 ir z.1)).trans e5⟩
  · obtain ⟨e1, e2, e3, e4⟩ := c.l i i0 i1
    exact ⟨(e _ _ (fun z => n3 z.1)).trans e1, e2, e3, fun q q0 q1 => (e _ _ (fun z => n7 i i0 i1 z.1)).trans (e4 q q0 q1)⟩
  · obtain ⟨e1, e2, e3, e4⟩ := c.b i i0 i1
    exact ⟨(e _ _ (fun z => n4 z.1)).trans e1, e2, e3, fun q q0 q1 => (e _ _ (fun z => n8 i i0 i1 z.1)).trans (e4 q q0 q1)⟩
theorem SM.u6 {h : AH} {a x : Int} {A pp ss : TT} {bb : Int → Int → Int} (c : SM h a A pp ss bb) {r : Int} (r0 : 0 ≤ r) (r1 : r < pp 1 0) (hs : SI pp (su ss 6 (r) x)) : SM (am_w h (A 5 r) 0 x) a A pp (su ss 6 (r) x) bb := by
  have tR : am_t h (A 5 r) = 20 := (c.p r r0 r1).2.1
  have na : ¬ a = A 5 r := ne_t c.t tR (by decide)
  have n0 : ¬ A 0 0 = A 5 r := fun z => c.dc.1 r r0 r1 z.symm
  have n1 : ¬ A 1 0 = A 5 r := ne_t c.pt tR (by decide)
  have n2 : ¬ A 2 0 = A 5 r := ne_t c.vt tR (by decide)
  have n3 : ¬ A 3 0 = A 5 r := ne_t c.lt tR (by decide)
  have n4 : ¬ A 4 0 = A 5 r := ne_t c.bt tR (by decide)
  have n5 : ∀ i, 0 ≤ i → i < pp 1 0 → ¬ i = r → ¬ A 5 i = A 5 r := fun i i0 i1 ir => c.dp i r i0 i1 r0 r1 ir
  have n6 : ∀ i, 0 ≤ i → i < pp 2 0 → ¬ A 6 i = A 5 r := fun i i0 i1 => fun z => c.dpv r i r0 r1 i0 i1 z.symm
  have n7 : ∀ i, 0 ≤ i → i < pp 2 0 → ¬ A 7 i = A 5 r := fun i i0 i1 => ne_t (c.l i i0 i1).2.1 tR (by decide)
  have n8 : ∀ i, 0 ≤ i → i < pp 3 0 → ¬ A 8 i = A 5 r := fun i i0 i1 => fun z => (c.db i i0 i1).1 r r0 r1 z.symm
  have e : ∀ b q, ¬ (b = A 5 r ∧ q = 0) → am_m (am_w h (A 5 r) (0) x) b q = am_m h b q := fun b q hn => by rw [am_m_w, if_neg hn]
  have e9 : am_m (am_w h (A 5 r) (0) x) (A 5 r) (0) = x := by rw [am_m_w, if_pos ⟨rfl, rfl⟩]
  have s : ∀ k i, ¬ (k = 6 ∧ i = r) → su ss 6 (r) x k i = ss k i := fun k i hn => su_ne hn
  have s9 : su ss 6 (r) x 6 (r) = x := su_eq
  refine ⟨c.t, (e _ _ (fun z => na z.1)).trans (c.m0.trans (s _ _ (by omega)).symm), (e _ _ (fun z => na z.1)).trans (c.m1.trans (s _ _ (by omega)).symm), (e _ _ (fun z => na z.1)).trans (c.m2.trans (s _ _ (by omega)).symm), (e _ _ (fun z => na z.1)).trans (c.m3.trans (s _ _ (by omega)).symm), (e _ _ (fun z => na z.1)).trans c.m4, (e _ _ (fun z => na z.1)).trans c.m5, (e _ _ (fun z => na z.1)).trans c.m6, (e _ _ (fun z => na z.1)).trans c.m7, (e _ _ (fun z => na z.1)).trans c.m8, (e _ _ (fun z => na z.1)).trans c.m9, ⟨c.caps.1, c.caps.2.1, fun i i0 i1 => (e _ _ (fun z => n0 z.1)).trans (c.caps.2.2 i i0 i1)⟩, c.pt, c.pl, fun i i0 i1 => ?_, c.vt, c.vl, fun i i0 i1 => ?_, c.lt, c.ll, fun i i0 i1 => ?_, c.bt, c.bl, fun i i0 i1 => ?_, c.br, c.pi, hs, c.p1, c.nn, c.nr, c.bd, c.dp, c.dv, c.dl, c.dpv, c.dc, c.db⟩
  · obtain ⟨e1, e2, e3, e4, e5, e6, e7, e8⟩ := c.p i i0 i1
    by_cases ir : i = r
    · subst ir
      exact ⟨(e _ _ (fun z => n1 z.1)).trans e1, e2, e3, e9.trans s9.symm, (e _ _ (by omega)).trans e5, (e _ _ (by omega)).trans e6, (e _ _ (by omega)).trans (e7.trans (s _ _ (by omega)).symm), (e _ _ (by omega)).trans (e8.trans (s _ _ (by omega)).symm)⟩
    · exact ⟨(e _ _ (fun z => n1 z.1)).trans e1, e2, e3, (e _ _ (fun z => n5 i i0 i1 ir z.1)).trans (e4.trans (s _ _ (by omega)).symm), (e _ _ (fun z => n5 i i0 i1 ir z.1)).trans e5, (e _ _ (fun z => n5 i i0 i1 ir z.1)).trans e6, (e _ _ (fun z => n5 i i0 i1 ir z.1)).trans (e7.trans (s _ _ (by omega)).symm), (e _ _ (fun z => n5 i i0 i1 ir z.1)).trans (e8.trans (s _ _ (by omega)).symm)⟩
  · obtain ⟨e1, e2, e3, e4, e5⟩ := c.v i i0 i1
    exact ⟨(e _ _ (fun z => n2 z.1)).trans e1, e2, e3, (e _ _ (fun z => n6 i i0 i1 z.1)).trans (e4.trans (s _ _ (by omega)).symm), (e _ _ (fun z => n6 i i0 i1 z.1)).trans (e5.trans (s _ _ (by omega)).symm)⟩
  · obtain ⟨e1, e2, e3, e4⟩ := c.l i i0 i1
    exact ⟨(e _ _ (fun z => n3 z.1)).trans e1, e2, e3, fun q q0 q1 => (e _ _ (fun z => n7 i i0 i1 z.1)).trans ((e4 q q0 q1).trans (s _ _ (by omega)).symm)⟩
  · obtain ⟨e1, e2, e3, e4⟩ := c.b i i0 i1
    exact ⟨(e _ _ (fun z => n4 z.1)).trans e1, e2, e3, fun q q0 q1 => (e _ _ (fun z => n8 i i0 i1 z.1)).trans (e4 q q0 q1)⟩
theorem SM.u7 {h : AH} {a x : Int} {A pp ss : TT} {bb : Int → Int → Int} (c : SM h a A pp ss bb) {r : Int} (r0 : 0 ≤ r) (r1 : r < pp 1 0) (hs : SI pp (su ss 7 (r) x)) : SM (am_w h (A 5 r) 3 x) a A pp (su ss 7 (r) x) bb := by
  have tR : am_t h (A 5 r) = 20 := (c.p r r0 r1).2.1
  have na : ¬ a = A 5 r := ne_t c.t tR (by decide)
  have n0 : ¬ A 0 0 = A 5 r := fun z => c.dc.1 r r0 r1 z.symm
  have n1 : ¬ A 1 0 = A 5 r := ne_t c.pt tR (by decide)
  have n2 : ¬ A 2 0 = A 5 r := ne_t c.vt tR (by decide)
  have n3 : ¬ A 3 0 = A 5 r := ne_t c.lt tR (by decide)
  have n4 : ¬ A 4 0 = A 5 r := ne_t c.bt tR (by decide)
  have n5 : ∀ i, 0 ≤ i → i < pp 1 0 → ¬ i = r → ¬ A 5 i = A 5 r := fun i i0 i1 ir => c.dp i r i0 i1 r0 r1 ir
  have n6 : ∀ i, 0 ≤ i → i < pp 2 0 → ¬ A 6 i = A 5 r := fun i i0 i1 => fun z => c.dpv r i r0 r1 i0 i1 z.symm
  have n7 : ∀ i, 0 ≤ i → i < pp 2 0 → ¬ A 7 i = A 5 r := fun i i0 i1 => ne_t (c.l i i0 i1).2.1 tR (by decide)
  have n8 : ∀ i, 0 ≤ i → i < pp 3 0 → ¬ A 8 i = A 5 r := fun i i0 i1 => fun z => (c.db i i0 i1).1 r r0 r1 z.symm
  have e : ∀ b q, ¬ (b = A 5 r ∧ q = 3) → am_m (am_w h (A 5 r) (3) x) b q = am_m h b q := fun b q hn => by rw [am_m_w, if_neg hn]
  have e9 : am_m (am_w h (A 5 r) (3) x) (A 5 r) (3) = x := by rw [am_m_w, if_pos ⟨rfl, rfl⟩]
  have s : ∀ k i, ¬ (k = 7 ∧ i = r) → su ss 7 (r) x k i = ss k i := fun k i hn => su_ne hn
  have s9 : su ss 7 (r) x 7 (r) = x := su_eq
  refine ⟨c.t, (e _ _ (fun z => na z.1)).trans (c.m0.trans (s _ _ (by omega)).symm), (e _ _ (fun z => na z.1)).trans (c.m1.trans (s _ _ (by omega)).symm), (e _ _ (fun z => na z.1)).trans (c.m2.trans (s _ _ (by omega)).symm), (e _ _ (fun z => na z.1)).trans (c.m3.trans (s _ _ (by omega)).symm), (e _ _ (fun z => na z.1)).trans c.m4, (e _ _ (fun z => na z.1)).trans c.m5, (e _ _ (fun z => na z.1)).trans c.m6, (e _ _ (fun z => na z.1)).trans c.m7, (e _ _ (fun z => na z.1)).trans c.m8, (e _ _ (fun z => na z.1)).trans c.m9, ⟨c.caps.1, c.caps.2.1, fun i i0 i1 => (e _ _ (fun z => n0 z.1)).trans (c.caps.2.2 i i0 i1)⟩, c.pt, c.pl, fun i i0 i1 => ?_, c.vt, c.vl, fun i i0 i1 => ?_, c.lt, c.ll, fun i i0 i1 => ?_, c.bt, c.bl, fun i i0 i1 => ?_, c.br, c.pi, hs, c.p1, c.nn, c.nr, c.bd, c.dp, c.dv, c.dl, c.dpv, c.dc, c.db⟩
  · obtain ⟨e1, e2, e3, e4, e5, e6, e7, e8⟩ := c.p i i0 i1
    by_cases ir : i = r
    · subst ir
      exact ⟨(e _ _ (fun z => n1 z.1)).trans e1, e2, e3, (e _ _ (by omega)).trans (e4.trans (s _ _ (by omega)).symm), (e _ _ (by omega)).trans e5, (e _ _ (by omega)).trans e6, e9.trans s9.symm, (e _ _ (by omega)).trans (e8.trans (s _ _ (by omega)).symm)⟩
    · exact ⟨(e _ _ (fun z => n1 z.1)).trans e1, e2, e3, (e _ _ (fun z => n5 i i0 i1 ir z.1)).trans (e4.trans (s _ _ (by omega)).symm), (e _ _ (fun z => n5 i i0 i1 ir z.1)).trans e5, (e _ _ (fun z => n5 i i0 i1 ir z.1)).trans e6, (e _ _ (fun z => n5 i i0 i1 ir z.1)).trans (e7.trans (s _ _ (by omega)).symm), (e _ _ (fun z => n5 i i0 i1 ir z.1)).trans (e8.trans (s _ _ (by omega)).symm)⟩
  · obtain ⟨e1, e2, e3, e4, e5⟩ := c.v i i0 i1
    exact ⟨(e _ _ (fun z => n2 z.1)).trans e1, e2, e3, (e _ _ (fun z => n6 i i0 i1 z.1)).trans (e4.trans (s _ _ (by omega)).symm), (e _ _ (fun z => n6 i i0 i1 z.1)).trans (e5.trans (s _ _ (by omega)).symm)⟩
  · obtain ⟨e1, e2, e3, e4⟩ := c.l i i0 i1
    exact ⟨(e _ _ (fun z => n3 z.1)).trans e1, e2, e3, fun q q0 q1 => (e _ _ (fun z => n7 i i0 i1 z.1)).trans ((e4 q q0 q1).trans (s _ _ (by omega)).symm)⟩
  · obtain ⟨e1, e2, e3, e4⟩ := c.b i i0 i1
    exact ⟨(e _ _ (fun z => n4 z.1)).trans e1, e2, e3, fun q q0 q1 => (e _ _ (fun z => n8 i i0 i1 z.1)).trans (e4 q q0 q1)⟩
theorem SM.u8 {h : AH} {a x : Int} {A pp ss : TT} {bb : Int → Int → Int} (c : SM h a A pp ss bb) {r : Int} (r0 : 0 ≤ r) (r1 : r < pp 1 0) (hs : SI pp (su ss 8 (r) x)) : SM (am_w h (A 5 r) 4 x) a A pp (su ss 8 (r) x) bb := by
  have tR : am_t h (A 5 r) = 20 := (c.p r r0 r1).2.1
  have na : ¬ a = A 5 r := ne_t c.t tR (by decide)
  have n0 : ¬ A 0 0 = A 5 r := fun z => c.dc.1 r r0 r1 z.symm
  have n1 : ¬ A 1 0 = A 5 r := ne_t c.pt tR (by decide)
  have n2 : ¬ A 2 0 = A 5 r := ne_t c.vt tR (by decide)
  have n3 : ¬ A 3 0 = A 5 r := ne_t c.lt tR (by decide)
  have n4 : ¬ A 4 0 = A 5 r := ne_t c.bt tR (by decide)
  have n5 : ∀ i, 0 ≤ i → i < pp 1 0 → ¬ i = r → ¬ A 5 i = A 5 r := fun i i0 i1 ir => c.dp i r i0 i1 r0 r1 ir
  have n6 : ∀ i, 0 ≤ i → i < pp 2 0 → ¬ A 6 i = A 5 r := fun i i0 i1 => fun z => c.dpv r i r0 r1 i0 i1 z.symm
  have n7 : ∀ i, 0 ≤ i → i < pp 2 0 → ¬ A 7 i = A 5 r := fun i i0 i1 => ne_t (c.l i i0 i1).2.1 tR (by decide)
  have n8 : ∀ i, 0 ≤ i → i < pp 3 0 → ¬ A 8 i = A 5 r := fun i i0 i1 => fun z => (c.db i i0 i1).1 r r0 r1 z.symm
  have e : ∀ b q, ¬ (b = A 5 r ∧ q = 4) → am_m (am_w h (A 5 r) (4) x) b q = am_m h b q := fun b q hn => by rw [am_m_w, if_neg hn]
  have e9 : am_m (am_w h (A 5 r) (4) x) (A 5 r) (4) = x := by rw [am_m_w, if_pos ⟨rfl, rfl⟩]
  have s : ∀ k i, ¬ (k = 8 ∧ i = r) → su ss 8 (r) x k i = ss k i := fun k i hn => su_ne hn
  have s9 : su ss 8 (r) x 8 (r) = x := su_eq
  refine ⟨c.t, (e _ _ (fun z => na z.1)).trans (c.m0.trans (s _ _ (by omega)).symm), (e _ _ (fun z => na z.1)).trans (c.m1.trans (s _ _ (by omega)).symm), (e _ _ (fun z => na z.1)).trans (c.m2.trans (s _ _ (by omega)).symm), (e _ _ (fun z => na z.1)).trans (c.m3.trans (s _ _ (by omega)).symm), (e _ _ (fun z => na z.1)).trans c.m4, (e _ _ (fun z => na z.1)).trans c.m5, (e _ _ (fun z => na z.1)).trans c.m6, (e _ _ (fun z => na z.1)).trans c.m7, (e _ _ (fun z => na z.1)).trans c.m8, (e _ _ (fun z => na z.1)).trans c.m9, ⟨c.caps.1, c.caps.2.1, fun i i0 i1 => (e _ _ (fun z => n0 z.1)).trans (c.caps.2.2 i i0 i1)⟩, c.pt, c.pl, fun i i0 i1 => ?_, c.vt, c.vl, fun i i0 i1 => ?_, c.lt, c.ll, fun i i0 i1 => ?_, c.bt, c.bl, fun i i0 i1 => ?_, c.br, c.pi, hs, c.p1, c.nn, c.nr, c.bd, c.dp, c.dv, c.dl, c.dpv, c.dc, c.db⟩
  · obtain ⟨e1, e2, e3, e4, e5, e6, e7, e8⟩ := c.p i i0 i1
    by_cases ir : i = r
    · subst ir
      exact ⟨(e _ _ (fun z => n1 z.1)).trans e1, e2, e3, (e _ _ (by omega)).trans (e4.trans (s _ _ (by omega)).symm), (e _ _ (by omega)).trans e5, (e _ _ (by omega)).trans e6, (e _ _ (by omega)).trans (e7.trans (s _ _ (by omega)).symm), e9.trans s9.symm⟩
    · exact ⟨(e _ _ (fun z => n1 z.1)).trans e1, e2, e3, (e _ _ (fun z => n5 i i0 i1 ir z.1)).trans (e4.trans (s _ _ (by omega)).symm), (e _ _ (fun z => n5 i i0 i1 ir z.1)).trans e5, (e _ _ (fun z => n5 i i0 i1 ir z.1)).trans e6, (e _ _ (fun z => n5 i i0 i1 ir z.1)).trans (e7.trans (s _ _ (by omega)).symm), (e _ _ (fun z => n5 i i0 i1 ir z.1)).trans (e8.trans (s _ _ (by omega)).symm)⟩
  · obtain ⟨e1, e2, e3, e4, e5⟩ := c.v i i0 i1
    exact ⟨(e _ _ (fun z => n2 z.1)).trans e1, e2, e3, (e _ _ (fun z => n6 i i0 i1 z.1)).trans (e4.trans (s _ _ (by omega)).symm), (e _ _ (fun z => n6 i i0 i1 z.1)).trans (e5.trans (s _ _ (by omega)).symm)⟩
  · obtain ⟨e1, e2, e3, e4⟩ := c.l i i0 i1
    exact ⟨(e _ _ (fun z => n3 z.1)).trans e1, e2, e3, fun q q0 q1 => (e _ _ (fun z => n7 i i0 i1 z.1)).trans ((e4 q q0 q1).trans (s _ _ (by omega)).symm)⟩
  · obtain ⟨e1, e2, e3, e4⟩ := c.b i i0 i1
    exact ⟨(e _ _ (fun z => n4 z.1)).trans e1, e2, e3, fun q q0 q1 => (e _ _ (fun z => n8 i i0 i1 z.1)).trans (e4 q q0 q1)⟩
theorem SM.u9 {h : AH} {a x : Int} {A pp ss : TT} {bb : Int → Int → Int} (c : SM h a A pp ss bb) {r j : Int} (r0 : 0 ≤ r) (r1 : r < pp 2 0) (j0 : 0 ≤ j) (j1 : j < pp 1 0) (hs : SI pp (su ss 9 (12 * r + j) x)) : SM (am_w h (A 7 r) j x) a A pp (su ss 9 (12 * r + j) x) bb := by
  have tR : am_t h (A 7 r) = 23 := (c.l r r0 r1).2.1
  have na : ¬ a = A 7 r := ne_t c.t tR (by decide)
  have n0 : ¬ A 0 0 = A 7 r := ne_t c.caps.1 tR (by decide)
  have n1 : ¬ A 1 0 = A 7 r := ne_t c.pt tR (by decide)
  have n2 : ¬ A 2 0 = A 7 r := ne_t c.vt tR (by decide)
  have n3 : ¬ A 3 0 = A 7 r := ne_t c.lt tR (by decide)
  have n4 : ¬ A 4 0 = A 7 r := ne_t c.bt tR (by decide)
  have n5 : ∀ i, 0 ≤ i → i < pp 1 0 → ¬ A 5 i = A 7 r := fun i i0 i1 => ne_t (c.p i i0 i1).2.1 tR (by decide)
  have n6 : ∀ i, 0 ≤ i → i < pp 2 0 → ¬ A 6 i = A 7 r := fun i i0 i1 => ne_t (c.v i i0 i1).2.1 tR (by decide)
  have n7 : ∀ i, 0 ≤ i → i < pp 2 0 → ¬ i = r → ¬ A 7 i = A 7 r := fun i i0 i1 ir => c.dl i r i0 i1 r0 r1 ir
  have n8 : ∀ i, 0 ≤ i → i < pp 3 0 → ¬ A 8 i = A 7 r := fun i i0 i1 => ne_t (c.b i i0 i1).2.1 tR (by decide)
  have e : ∀ b q, ¬ (b = A 7 r ∧ q = j) → am_m (am_w h (A 7 r) (j) x) b q = am_m h b q := fun b q hn => by rw [am_m_w, if_neg hn]
  have e9 : am_m (am_w h (A 7 r) (j) x) (A 7 r) (j) = x := by rw [am_m_w, if_pos ⟨rfl, rfl⟩]
  have s : ∀ k i, ¬ (k = 9 ∧ i = 12 * r + j) → su ss 9 (12 * r + j) x k i = ss k i := fun k i hn => su_ne hn
  have s9 : su ss 9 (12 * r + j) x 9 (12 * r + j) = x := su_eq
  refine ⟨c.t, (e _ _ (fun z => na z.1)).trans (c.m0.trans (s _ _ (by omega)).symm), (e _ _ (fun z => na z.1)).trans (c.m1.trans (s _ _ (by omega)).symm), (e _ _ (fun z => na z.1)).trans (c.m2.trans (s _ _ (by omega)).symm), (e _ _ (fun z => na z.1)).trans (c.m3.trans (s _ _ (by omega)).symm), (e _ _ (fun z => na z.1)).trans c.m4, (e _ _ (fun z => na z.1)).trans c.m5, (e _ _ (fun z => na z.1)).trans c.m6, (e _ _ (fun z => na z.1)).trans c.m7, (e _ _ (fun z => na z.1)).trans c.m8, (e _ _ (fun z => na z.1)).trans c.m9, ⟨c.caps.1, c.caps.2.1, fun i i0 i1 => (e _ _ (fun z => n0 z.1)).trans (c.caps.2.2 i i0 i1)⟩, c.pt, c.pl, fun i i0 i1 => ?_, c.vt, c.vl, fun i i0 i1 => ?_, c.lt, c.ll, fun i i0 i1 => ?_, c.bt, c.bl, fun i i0 i1 => ?_, c.br, c.pi, hs, c.p1, c.nn, c.nr, c.bd, c.dp, c.dv, c.dl, c.dpv, c.dc, c.db⟩
  · obtain ⟨e1, e2, e3, e4, e5, e6, e7, e8⟩ := c.p i i0 i1
    exact ⟨(e _ _ (fun z => n1 z.1)).trans e1, e2, e3, (e _ _ (fun z => n5 i i0 i1 z.1)).trans (e4.trans (s _ _ (by omega)).symm), (e _ _ (fun z => n5 i i0 i1 z.1)).trans e5, (e _ _ (fun z => n5 i i0 i1 z.1)).trans e6, (e _ _ (fun z => n5 i i0 i1 z.1)).trans (e7.trans (s _ _ (by omega)).symm), (e _ _ (fun z => n5 i i0 i1 z.1)).trans (e8.trans (s _ _ (by omega)).symm)⟩
  · obtain ⟨e1, e2, e3, e4, e5⟩ := c.v i i0 i1
    exact ⟨(e _ _ (fun z => n2 z.1)).trans e1, e2, e3, (e _ _ (fun z => n6 i i0 i1 z.1)).trans (e4.trans (s _ _ (by omega)).symm), (e _ _ (fun z => n6 i i0 i1 z.1)).trans (e5.trans (s _ _ (by omega)).symm)⟩
  · obtain ⟨e1, e2, e3, e4⟩ := c.l i i0 i1
    refine ⟨(e _ _ (fun z => n3 z.1)).trans e1, e2, e3, fun q q0 q1 => ?_⟩
    by_cases ir : i = r
    · subst ir
      by_cases qj : q = j
      · subst qj
        exact e9.trans s9.symm
      · exact (e _ _ (fun z => qj z.2)).trans ((e4 q q0 q1).trans (s _ _ (by omega)).symm)
    · have hP := c.p1
      exact (e _ _ (fun z => n7 i i0 i1 ir z.1)).trans ((e4 q q0 q1).trans (s _ _ (by omega)).symm)
  · obtain ⟨e1, e2, e3, e4⟩ := c.b i i0 i1
    exact ⟨(e _ _ (fun z => n4 z.1)).trans e1, e2, e3, fun q q0 q1 => (e _ _ (fun z => n8 i i0 i1 z.1)).trans (e4 q q0 q1)⟩
