/-! ===== the law's own jury: out of the pot, growing, the whole year ===== -/
theorem pe_cb0 {pp ss : TT} {bb : Int → Int → Int} {tt : Int → List Op} {r p : Int} (q : s_hb pp ss bb p = s_bn pp ss tt p) (z : s_cb pp ss bb p = false) : ¬ s_pe pp ss tt (-1) r p = true := by
  unfold s_cb at z
  rw [q] at z
  unfold s_pe
  cases h1 : s_rm pp ss (-1) p <;> cases h2 : s_bn pp ss tt p <;> simp_all
theorem pe_cb1 {pp ss : TT} {bb : Int → Int → Int} {tt : Int → List Op} {r p : Int} (q : s_hb pp ss bb p = s_bn pp ss tt p) (z : s_cb pp ss bb p = true) : s_pe pp ss tt (-1) r p = true ↔ (ss 6 p ≤ ss 2 0 ∧ (r = -1 ∨ s_nf pp ss r < s_nf pp ss p ∨ (s_nf pp ss p = s_nf pp ss r ∧ ss 6 p < ss 6 r))) := by
  unfold s_cb at z
  rw [q] at z
  unfold s_pe
  simp only [Bool.and_eq_true, Bool.not_eq_true'] at z
  rw [z.1, z.2]
  simp only [Bool.and_eq_true, Bool.or_eq_true, decide_eq_true_eq, Bool.not_false, true_and]
theorem s167_79 {d : Nat} {h : AH} {a l1 : Int} {A pp ss : TT} {bb : Int → Int → Int} {tt : Int → List Op} {K : AK} {nc ns : Nat} {y4 y5 y6 : AV} (c : SM h a A pp ss bb) (q : HQ pp bb tt)
    (kn : s_px pp ss tt (-1) = -1 → WP (d + 6) 167 (217, [(2, a), (0, l1), (2, A 1 0), (0, pp 1 0), (0, 0), y5, y6], [], h, nc, ns) K)
    (kp : ¬ s_px pp ss tt (-1) = -1 → ∀ h2 y2 y3, SM h2 a A pp (s_pot ss (s_px pp ss tt (-1))) bb → FX (SR A pp a) h h2 → am_n h2 = am_n h → WP (d + 6) 167 (75, [(2, a), (0, w32 (l1 + 1)), y2, y3, y4, y5, y6], [], h2, nc, ns) K) :
    WP (d + 6) 167 (79, [(2, a), (0, l1), (0, -1), (0, 0), y4, y5, y6], [], h, nc, ns) K := by
  have hN := c.p1
  refine lp_up (fun n => (79, [(2, a), (0, l1), (0, pxt pp ss tt (-1) n), (0, (n : Int)), y4, y5, y6], [], h, nc, ns)) (pp 1 0).toNat (fun n hn nx => ?_) ?_
  · obtain ⟨e1, e2, e3, e4, e5, e6, e7, e8⟩ := c.p (n : Int) (by omega) (by omega)
    have qn := q ss c.si (n : Int) (by omega) (by omega)
    rw [pxt_succ] at nx
    have rg := pxt_rg (pp := pp) (ss := ss) (tt := tt) (lo := -1) n
    generalize pxt pp ss tt (-1) n = r at nx rg ⊢
    refine v167_79 ?_
    rw [c.t, c.m5, c.pt, c.pl, show w32 ((n : Int) + 1) = ((n + 1 : Nat) : Int) by rw [w32_id (by omega) (by omega)]; omega]
    refine ⟨rfl, by decide, fun _ => ⟨rfl, s161 c (by omega) (by omega) (okx ⟨fun z => ?_, fun z => ?_⟩)⟩, fun z => absurd (show (n : Int) < pp 1 0 by omega) z⟩
    · rw [if_neg (pe_cb0 qn (bI_e0 z))] at nx
      exact nx
    · have pe := pe_cb1 (r := r) qn (bI_e1 z)
      rw [c.t, c.m5, c.m1, c.pt, c.pl, e1, e2, e3, e4]
      refine ⟨rfl, ⟨Or.inl rfl, by omega, by omega⟩, ⟨rfl, by decide, by decide⟩, rfl, fun y => ?_, fun y => ⟨fun x => ?_, fun x => ⟨rfl, s156 c (by omega) (by omega) (okx ⟨c.t, s156 c (by omega) (by omega) (okx ⟨fun w => ?_, fun w => ⟨c.t, s156 c (by omega) (by omega) (okx ⟨c.t, s156 c (by omega) (by omega) (okx ⟨fun u => ?_, fun u => ?_⟩)⟩)⟩⟩)⟩)⟩⟩⟩
      · rw [if_neg (fun x => absurd (pe.mp x).1 (by omega))] at nx
        exact nx
      · rw [if_pos (pe.mpr ⟨by omega, Or.inl (by omega)⟩)] at nx
        exact nx
      · rw [if_pos (pe.mpr ⟨by omega, Or.inr (Or.inl w)⟩)] at nx
        exact nx
      · obtain ⟨g1, g2, g3, g4, -⟩ := c.p r (by omega) (by omega)
        rw [c.t, c.m5, c.pt, c.pl, e1, e2, e3, e4, g1, g2, g3, g4]
        refine ⟨rfl, ⟨Or.inl rfl, by omega, by omega⟩, ⟨rfl, by decide, by decide⟩, rfl, ⟨Or.inl rfl, by omega, by omega⟩, ⟨rfl, by decide, by decide⟩, fun t => ?_, fun t => ?_⟩
        · rw [if_pos (pe.mpr ⟨by omega, Or.inr (Or.inr ⟨u, t⟩)⟩)] at nx
          exact nx
        · rw [if_neg (fun s => by have := (pe.mp s).2; omega)] at nx
          exact nx
      · rw [if_neg (fun s => by have := (pe.mp s).2; omega)] at nx
        exact nx
  · have rg := px_rg (pp := pp) (ss := ss) (tt := tt) (lo := -1) c.pi
    have er : pxt pp ss tt (-1) (pp 1 0).toNat = s_px pp ss tt (-1) := rfl
    show WP _ _ (79, [(2, a), (0, l1), (0, pxt pp ss tt (-1) (pp 1 0).toNat), (0, (((pp 1 0).toNat : Nat) : Int)), y4, y5, y6], [], h, nc, ns) K
    rw [er]
    have kp' := kp
    unfold s_pot at kp'
    generalize s_px pp ss tt (-1) = r at rg kn kp' ⊢
    refine v167_79 ?_
    rw [c.t, c.m5, c.pt, c.pl]
    refine ⟨rfl, by decide, fun z => absurd z (by omega), fun _ => ⟨fun z => ⟨rfl, c.nr.1, by decide, kn (by omega)⟩, fun z => ?_⟩⟩
    have r0 : 0 ≤ r ∧ r < pp 1 0 ∧ ss 7 r = -1 ∧ ss 6 r ≤ ss 2 0 := rg.resolve_left (by omega)
    obtain ⟨e1, e2, e3, e4, -⟩ := c.p r r0.1 r0.2.1
    have hc := (c.si.2.2.2.2.1 r r0.1 r0.2.1).1
    have hp := c.si.2.2.1
    rw [c.m1, e1, e2, e3, e4, w32_id (x := ss 2 0 - ss 6 r) (by omega) (by omega)]
    have c2 := c.u2 (x := ss 2 0 - ss 6 r) (c.si.u2 (by omega))
    refine ⟨rfl, rfl, ⟨Or.inl rfl, r0.1, r0.2.1⟩, ⟨rfl, by decide, by decide⟩, rfl, c2.t, s166 c2 r0.1 r0.2.1 (fun h2 c3 f3 n3 => okx ?_)⟩
    exact kp' (by omega) h2 _ _ c3 ((FX.rf.w (Or.inl rfl)).tr f3) n3
theorem grow_eq {x g : Int} (h0 : 1 ≤ x) (h1 : x ≤ 9999) (h2 : 0 ≤ g) (h3 : g ≤ 50) : min 9999 (w32 ((w32 (x * (w32 (100 + g)))).tdiv 100)) = s_g1 x g := by
  have m0 : 0 ≤ x * g := Int.mul_nonneg (by omega) h2
  have m1 : x * g ≤ 9999 * 50 := Int.mul_le_mul h1 h3 h2 (by decide)
  have e : w32 (x * g) = x * g := w32_id (by omega) (by omega)
  have e2 : w32 (100 + g) = 100 + g := w32_id (by omega) (by omega)
  have e3 : x * (100 + g) = 100 * x + x * g := by rw [Int.mul_add, Int.mul_comm x 100]
  unfold s_g1
  rw [e, e2, e3]
  clear e e2 e3
  generalize x * g = y at m0 m1
  rw [w32_id (x := 100 * x + y) (by omega) (by omega), Int.tdiv_eq_ediv_of_nonneg (by omega), Int.tdiv_eq_ediv_of_nonneg m0, w32_id (x := y / 100) (by omega) (by omega), w32_id (by omega) (by omega), w32_id (by omega) (by omega)]
  omega
theorem s167_217 {d : Nat} {h : AH} {a l1 : Int} {A pp ss : TT} {bb : Int → Int → Int} {K : AK} {nc ns : Nat} {y5 y6 : AV} (c : SM h a A pp ss bb) (hy : ss 0 0 + 1 < 2000000000)
    (k : ∀ h2, SM h2 a A pp (su (s_gr pp ss (pp 1 0).toNat) 0 0 (ss 0 0 + 1)) bb → FX (SR A pp a) h h2 → am_n h2 = am_n h → K 0 l1 h2) :
    WP (d + 6) 167 (217, [(2, a), (0, l1), (2, A 1 0), (0, pp 1 0), (0, 0), y5, y6], [], h, nc, ns) K := by
  have hN := c.p1
  refine lp_in (S := AH × AV) (fun n s => (217, [(2, a), (0, l1), (2, A 1 0), (0, pp 1 0), (0, (n : Int)), s.2, y6], [], s.1, nc, ns)) (fun n s => SM s.1 a A pp (s_gr pp ss n) bb ∧ FX (SR A pp a) h s.1 ∧ am_n s.1 = am_n h) (pp 1 0).toNat (fun n s hn I nx => ?_) (fun s I => ?_) (h, y5) ⟨c, FX.rf, rfl⟩
  · obtain ⟨g, y⟩ := s
    obtain ⟨c1, f1, n1⟩ := I
    dsimp only at c1 f1 n1 ⊢
    rw [s_gr_succ] at nx
    generalize s_gr pp ss n = sx at c1 nx
    obtain ⟨e1, e2, e3, e4, e5, e6, e7, e8⟩ := c1.p (n : Int) (by omega) (by omega)
    have h7 := (c1.si.2.2.2.2.1 (n : Int) (by omega) (by omega)).2.1
    have hc := (c1.si.2.2.2.2.1 (n : Int) (by omega) (by omega)).1
    have hg := c.pi.grows (i := (n : Int)) (by omega) (by omega)
    refine v167_217 ?_
    rw [c1.pt, c1.pl, e1, e2, e3, e4, e6, e7, grow_eq hc.1 hc.2 hg.1 hg.2, show w32 ((n : Int) + 1) = ((n + 1 : Nat) : Int) by rw [w32_id (by omega) (by omega)]; omega]
    refine ⟨fun _ => ⟨⟨Or.inl rfl, by omega, by omega⟩, c1.nn.2.2.2.1 _ (by omega) (by omega), ⟨rfl, by decide, by decide⟩, fun z => ⟨⟨rfl, by decide, by decide⟩, ⟨rfl, by decide, by decide⟩, by decide, ⟨rfl, by decide, by decide⟩, ?_⟩, fun z => ?_⟩, fun z => absurd (show (n : Int) < pp 1 0 by omega) z⟩
    · rw [if_pos (show sx 7 (n : Int) = -1 by omega)] at nx
      exact nx (_, (2, A 5 (n : Int))) ⟨c1.u6 (by omega) (by omega) (c1.si.u6 (g1_bd hc.1 hc.2 hg.1 hg.2)), f1.w (Or.inr (Or.inl ⟨(n : Int), by omega, by omega, rfl⟩)), n1⟩
    · rw [if_neg (show ¬ sx 7 (n : Int) = -1 by omega)] at nx
      exact nx (_, (2, A 5 (n : Int))) ⟨c1, f1, n1⟩
  · obtain ⟨g, y⟩ := s
    obtain ⟨c1, f1, n1⟩ := I
    dsimp only at c1 f1 n1 ⊢
    have e0 : s_gr pp ss (pp 1 0).toNat 0 0 = ss 0 0 := s_gr_ne (by decide) _
    have y0 := c.si.1
    refine v167_217 ?_
    rw [c1.t, c1.m0, e0, w32_id (x := ss 0 0 + 1) (by omega) (by omega)]
    refine ⟨fun z => absurd z (by omega), fun _ => ⟨rfl, rfl, k _ (c1.u0 (c1.si.u0 (by omega) (fun p p0 p1 => ?_))) (f1.w (Or.inl rfl)) n1⟩⟩
    have := (c1.si.2.2.2.2.1 p p0 p1).2.1
    rw [e0] at this
    omega
theorem bc_8 {pp ss : TT} (hN : 1 ≤ pp 1 0 ∧ pp 1 0 ≤ 7) : 0 ≤ s_bc pp ss ∧ s_bc pp ss ≤ 7 := by
  have := sm_bd (f := f_bc ss) (B := 1) (n := (pp 1 0).toNat) (fun j hj => by
    unfold f_bc
    split <;> omega)
  unfold s_bc
  omega
theorem s167_75 {d : Nat} {a many : Int} {A pp : TT} {bb : Int → Int → Int} {tt : Int → List Op} {K : AK} {nc ns : Nat} (q : HQ pp bb tt) : ∀ (j : Nat) (h : AH) (ss : TT) (l1 : Int) (y2 y3 y4 y5 y6 : AV), SM h a A pp ss bb → ss 0 0 + 1 < 2000000000 → 8 - s_bc pp ss ≤ (j : Int) → l1 = s_bc pp ss - many → 0 ≤ many → many ≤ 7 →
    (∀ h2, SM h2 a A pp (su (s_gr pp (s_b3 pp tt (-1) j ss) (pp 1 0).toNat) 0 0 (ss 0 0 + 1)) bb → FX (SR A pp a) h h2 → am_n h2 = am_n h → K 0 (s_bc pp (s_b3 pp tt (-1) j ss) - many) h2) →
    WP (d + 6) 167 (75, [(2, a), (0, l1), y2, y3, y4, y5, y6], [], h, nc, ns) K := by
  intro j
  induction j with
  | zero =>
    intro h ss l1 y2 y3 y4 y5 y6 c hy hj _ _ _ k
    have hN := c.p1
    have b8 := bc_8 (ss := ss) ⟨hN.1, hN.2.1⟩
    exact absurd hj (by omega)
  | succ j ih =>
    intro h ss l1 y2 y3 y4 y5 y6 c hy hj e1 m0 m1 k
    have hN := c.p1
    have b8 := bc_8 (ss := ss) ⟨hN.1, hN.2.1⟩
    refine v167_75 (s167_79 c q (fun z => ?_) (fun z h2 y2 y3 c2 f2 n2 => ?_))
    · have e : s_b3 pp tt (-1) (j + 1) ss = ss := if_pos z
      rw [e] at k
      rw [e1]
      exact s167_217 c hy k
    · have e : s_b3 pp tt (-1) (j + 1) ss = s_b3 pp tt (-1) j (s_pot ss (s_px pp ss tt (-1))) := if_neg z
      rw [e] at k
      obtain ⟨r0, r1, r7, rc⟩ := (px_rg (pp := pp) (ss := ss) (tt := tt) (lo := -1) c.pi).resolve_left z
      have bb1 := bc_pot c.pi c.si r0 r1 r7 rc
      have e0 : s_pot ss (s_px pp ss tt (-1)) 0 0 = ss 0 0 := (s_bld_ne (by omega) (by omega)).trans (su_ne (by omega))
      refine ih h2 _ _ y2 y3 y4 y5 y6 c2 (by rw [e0]; exact hy) (by omega) ?_ m0 m1 (fun h3 c3 f3 n3 => ?_)
      · rw [w32_id (by omega) (by omega)]
        omega
      · rw [e0] at c3
        exact k h3 c3 (f2.tr f3) (n3.trans n2)
theorem s167_11 {d : Nat} {a many : Int} {A pp : TT} {bb : Int → Int → Int} {tt : Int → List Op} {K : AK} (q : HQ pp bb tt) : ∀ (j : Nat) (h : AH) (ss : TT) (l1 : Int) (nc ns : Nat) (y3 y4 y5 y6 : AV), SM h a A pp ss bb → 0 ≤ am_n h → ss 0 0 + 1 < 2000000000 → 8 - s_bc pp ss ≤ (j : Int) → l1 = s_bc pp ss - many → 0 ≤ many → many ≤ 7 → (nc : Int) ≤ 70 + 71 * s_bc pp ss → (ns : Int) ≤ 4500 + 4564 * s_bc pp ss →
    (∀ h2, SM h2 a A pp (su (s_gr pp (s_b3 pp tt (-1) 12 (s_b2 pp tt (-1) j ss)) (pp 1 0).toNat) 0 0 (ss 0 0 + 1)) bb → FX (SR A pp a) h h2 → am_n h2 ≤ am_n h + 36 * (7 - s_bc pp ss) → K 0 (s_bc pp (s_b3 pp tt (-1) 12 (s_b2 pp tt (-1) j ss)) - many) h2) →
    WP (d + 6) 167 (11, [(2, a), (0, l1), (0, s_nx pp ss tt (-1)), y3, y4, y5, y6], [], h, nc, ns) K := by
  intro j
  induction j with
  | zero =>
    intro h ss l1 nc ns y3 y4 y5 y6 c n0 hy hj _ _ _ _ _ k
    have hN := c.p1
    have b8 := bc_8 (ss := ss) ⟨hN.1, hN.2.1⟩
    exact absurd hj (by omega)
  | succ j ih =>
    intro h ss l1 nc ns y3 y4 y5 y6 c n0 hy hj e1 m0 m1 hnc hns k
    have hN := c.p1
    have b8 := bc_8 (ss := ss) ⟨hN.1, hN.2.1⟩
    have rg := nx_rg (pp := pp) (ss := ss) (tt := tt) (lo := -1) c.pi
    refine v167_11 ⟨fun z => ?_, fun z => ⟨c.t, by rw [c.m6]; exact c.nr.2.1, by rw [c.m6, c.vt]; decide, ?_⟩⟩
    · have e : s_b2 pp tt (-1) (j + 1) ss = ss := if_pos (by omega)
      rw [e] at k
      refine s167_75 q 12 h ss l1 _ _ _ _ _ c hy (by omega) e1 m0 m1 (fun h2 c2 f2 n2 => k h2 c2 f2 (by omega))
    · obtain ⟨r0, r1, r7, rs⟩ := rg.resolve_left (by omega)
      have e : s_b2 pp tt (-1) (j + 1) ss = s_b2 pp tt (-1) j (s_buy pp ss (s_nx pp ss tt (-1))) := if_neg (by omega)
      rw [e] at k
      have bb1 := bc_buy c.pi c.si r0 r1 r7 rs
      have b9 := bc_8 (ss := s_buy pp ss (s_nx pp ss tt (-1))) ⟨hN.1, hN.2.1⟩
      have e0 : s_buy pp ss (s_nx pp ss tt (-1)) 0 0 = ss 0 0 := s_buy_ne (Or.inl rfl)
      rw [c.m6, c.vl]
      refine s167_27 c q n0 rfl r0 (by omega) (by omega) (fun g y c2 f2 n2 => ?_)
      have f2' := f2.1
      refine ih g _ _ _ _ _ _ _ _ c2 (by omega) (by rw [e0]; exact hy) (by omega) ?_ m0 m1 (by omega) (by omega) (fun h3 c3 f3 n3 => ?_)
      · rw [w32_id (by omega) (by omega)]
        omega
      · rw [e0] at c3
        exact k h3 c3 (f2.tr f3) (by omega)
theorem bc_col {pp ss : TT} : s_bc pp (s_col pp ss) = s_bc pp ss := bc_congr (fun _ => s_col_ne (by decide) (by decide))
theorem bc_gr {pp ss : TT} {n : Nat} : s_bc pp (s_gr pp ss n) = s_bc pp ss := bc_congr (fun _ => s_gr_ne (by decide) _)
theorem bc_year {pp ss : TT} {tt : Int → List Op} {lo : Int} : s_bc pp (s_year pp tt lo ss) = s_bc pp (s_b3 pp tt lo 12 (s_b2 pp tt lo 12 (s_col pp ss))) := by
  have e : s_bc pp (s_year pp tt lo ss) = s_bc pp (s_p1 pp tt lo ss) := bc_congr (fun _ => su_ne (by omega))
  rw [e]
  exact bc_gr
/-- a year of the law's jury is a year of the class's -/
theorem s167 {d : Nat} {h : AH} {a : Int} {A pp ss : TT} {bb : Int → Int → Int} {tt : Int → List Op} {K : AK} (c : SM h a A pp ss bb) (q : HQ pp bb tt) (n0 : 0 ≤ am_n h) (hy : ss 0 0 + 1 < 2000000000) (k : ∀ h2, SM h2 a A pp (s_year pp tt (-1) ss) bb → FX (SR A pp a) h h2 → am_n h2 ≤ am_n h + 400 → K 0 (s_bc pp (s_year pp tt (-1) ss) - s_bc pp ss) h2) : am_call (d + 6) 167 [(2, a)] h K := by
  have hN := c.p1
  have b8 := bc_8 (ss := ss) ⟨hN.1, hN.2.1⟩
  have e0 : s_col pp ss 0 0 = ss 0 0 := s_col_ne (by decide) (by decide)
  refine v167 ⟨c.t, s163 c (fun g c1 f1 n1 => okx ⟨⟨c1.t, by decide, by decide⟩, s164 c1 (q _ c1.si) (by omega) (fun g2 f2 n2 => okx ?_)⟩)⟩
  have m2 := f2.1
  have c2 := c1.fp f2 (Int.le_refl _) (Int.le_refl _)
  have F := f1.fp f2 (by omega) (by omega)
  have eb := bc_col (pp := pp) (ss := ss)
  refine s167_11 (many := s_bc pp ss) q 12 g2 (s_col pp ss) 0 70 4500 _ _ _ _ c2 (by omega) (by rw [e0]; exact hy) (by omega) (by omega) b8.1 b8.2 (by omega) (by omega) (fun h3 c3 f3 n3 => ?_)
  rw [e0] at c3
  have := k h3 c3 (F.tr f3) (by omega)
  rw [bc_year] at this
  exact this
