/-! ===== bits ===== -/
def bc1 (x : Int) : Int := w32 (x - am_and (am_ushr x 1) 1431655765)
def bc2 (x : Int) : Int := w32 (am_and x 858993459 + am_and (am_ushr x 2) 858993459)
def bc3 (x : Int) : Int := am_and (w32 (x + am_ushr x 4)) 252645135
def bc4 (x : Int) : Int := w32 (x + am_ushr x 8)
def bc5 (x : Int) : Int := am_and (w32 (x + am_ushr x 16)) 63
def bt (x v : Int) : Int := am_and (am_shr x v) 1
def bcs (n : Nat) : Int := bc5 (bc4 (bc3 (bc2 (bc1 (n : Int)))))
theorem bc_all0 : ∀ n : Nat, n < 256 → bcs (0 + n) = sm (bt ((0 + n : Nat) : Int)) 12 := by decide +kernel
theorem bc_all1 : ∀ n : Nat, n < 256 → bcs (256 + n) = sm (bt ((256 + n : Nat) : Int)) 12 := by decide +kernel
theorem bc_all2 : ∀ n : Nat, n < 256 → bcs (512 + n) = sm (bt ((512 + n : Nat) : Int)) 12 := by decide +kernel
theorem bc_all3 : ∀ n : Nat, n < 256 → bcs (768 + n) = sm (bt ((768 + n : Nat) : Int)) 12 := by decide +kernel
theorem bc_all4 : ∀ n : Nat, n < 256 → bcs (1024 + n) = sm (bt ((1024 + n : Nat) : Int)) 12 := by decide +kernel
theorem bc_all5 : ∀ n : Nat, n < 256 → bcs (1280 + n) = sm (bt ((1280 + n : Nat) : Int)) 12 := by decide +kernel
theorem bc_all6 : ∀ n : Nat, n < 256 → bcs (1536 + n) = sm (bt ((1536 + n : Nat) : Int)) 12 := by decide +kernel
theorem bc_all7 : ∀ n : Nat, n < 256 → bcs (1792 + n) = sm (bt ((1792 + n : Nat) : Int)) 12 := by decide +kernel
theorem bc_all8 : ∀ n : Nat, n < 256 → bcs (2048 + n) = sm (bt ((2048 + n : Nat) : Int)) 12 := by decide +kernel
theorem bc_all9 : ∀ n : Nat, n < 256 → bcs (2304 + n) = sm (bt ((2304 + n : Nat) : Int)) 12 := by decide +kernel
theorem bc_all10 : ∀ n : Nat, n < 256 → bcs (2560 + n) = sm (bt ((2560 + n : Nat) : Int)) 12 := by decide +kernel
theorem bc_all11 : ∀ n : Nat, n < 256 → bcs (2816 + n) = sm (bt ((2816 + n : Nat) : Int)) 12 := by decide +kernel
theorem bc_all12 : ∀ n : Nat, n < 256 → bcs (3072 + n) = sm (bt ((3072 + n : Nat) : Int)) 12 := by decide +kernel
theorem bc_all13 : ∀ n : Nat, n < 256 → bcs (3328 + n) = sm (bt ((3328 + n : Nat) : Int)) 12 := by decide +kernel
theorem bc_all14 : ∀ n : Nat, n < 256 → bcs (3584 + n) = sm (bt ((3584 + n : Nat) : Int)) 12 := by decide +kernel
theorem bc_all15 : ∀ n : Nat, n < 256 → bcs (3840 + n) = sm (bt ((3840 + n : Nat) : Int)) 12 := by decide +kernel
theorem bc_all {x : Int} (h0 : 0 ≤ x) (h1 : x < 4096) : bc5 (bc4 (bc3 (bc2 (bc1 x)))) = sm (bt x) 12 := by
  obtain ⟨n, rfl⟩ : ∃ n : Nat, x = (n : Int) := ⟨x.toNat, by omega⟩
  by_cases z0 : n < 256
  · have := bc_all0 (n - 0) (by omega)
    rw [show 0 + (n - 0) = n by omega] at this
    exact this
  by_cases z1 : n < 512
  · have := bc_all1 (n - 256) (by omega)
    rw [show 256 + (n - 256) = n by omega] at this
    exact this
  by_cases z2 : n < 768
  · have := bc_all2 (n - 512) (by omega)
    rw [show 512 + (n - 512) = n by omega] at this
    exact this
  by_cases z3 : n < 1024
  · have := bc_all3 (n - 768) (by omega)
    rw [show 768 + (n - 768) = n by omega] at this
    exact this
  by_cases z4 : n < 1280
  · have := bc_all4 (n - 1024) (by omega)
    rw [show 1024 + (n - 1024) = n by omega] at this
    exact this
  by_cases z5 : n < 1536
  · have := bc_all5 (n - 1280) (by omega)
    rw [show 1280 + (n - 1280) = n by omega] at this
    exact this
  by_cases z6 : n < 1792
  · have := bc_all6 (n - 1536) (by omega)
    rw [show 1536 + (n - 1536) = n by omega] at this
    exact this
  by_cases z7 : n < 2048
  · have := bc_all7 (n - 1792) (by omega)
    rw [show 1792 + (n - 1792) = n by omega] at this
    exact this
  by_cases z8 : n < 2304
  · have := bc_all8 (n - 2048) (by omega)
    rw [show 2048 + (n - 2048) = n by omega] at this
    exact this
  by_cases z9 : n < 2560
  · have := bc_all9 (n - 2304) (by omega)
    rw [show 2304 + (n - 2304) = n by omega] at this
    exact this
  by_cases z10 : n < 2816
  · have := bc_all10 (n - 2560) (by omega)
    rw [show 2560 + (n - 2560) = n by omega] at this
    exact this
  by_cases z11 : n < 3072
  · have := bc_all11 (n - 2816) (by omega)
    rw [show 2816 + (n - 2816) = n by omega] at this
    exact this
  by_cases z12 : n < 3328
  · have := bc_all12 (n - 3072) (by omega)
    rw [show 3072 + (n - 3072) = n by omega] at this
    exact this
  by_cases z13 : n < 3584
  · have := bc_all13 (n - 3328) (by omega)
    rw [show 3328 + (n - 3328) = n by omega] at this
    exact this
  by_cases z14 : n < 3840
  · have := bc_all14 (n - 3584) (by omega)
    rw [show 3584 + (n - 3584) = n by omega] at this
    exact this
  by_cases z15 : n < 4096
  · have := bc_all15 (n - 3840) (by omega)
    rw [show 3840 + (n - 3840) = n by omega] at this
    exact this
  omega
theorem c12 {d : Nat} {h : AH} {x : Int} {K : AK} (h0 : 0 ≤ x) (h1 : x < 4096) (k : K 0 (sm (bt x) 12) h) : am_call d 12 [(0, x)] h K := by
  refine v12 ?_
  rw [← bc_all h0 h1] at k
  exact k
theorem nf_sum {pp ss : TT} {p : Int} (hI : PI pp) (hS : SI pp ss) (h0 : 0 ≤ p) (h1 : p < pp 1 0) : sm (f_nf ss p) 12 = s_nf pp ss p := by
  have nv := hI.nv
  have np := hI.np
  refine sm_zero (by omega) (fun i z1 z2 => ?_)
  exact hS.nofan (by omega) h0 (by omega) (by omega) (Or.inl (by omega))
theorem c60 {d : Nat} {h : AH} {a q p : Int} {pp ss : TT} {K : AK} (c : CC h a q pp ss) (h0 : 0 ≤ p) (h1 : p < pp 1 0) (k : K 0 (s_nf pp ss p) h) : am_call (d + 1) 60 [(2, a), (0, p)] h K := by
  refine v60 ?_
  have np := c.I.np
  have fb := c.fb h0 h1
  simp only [c.P.t, c.P.f5, c.P.f3, c.P.t1, c.P.l1, c.P.f4, c.P.t2, c.P.l2, c.P.f8, c.P.t3, c.P.l3, c.P.f9, c.P.t4, c.P.l4, c.P.f10, c.P.t5, c.P.l5, c.P.f11, c.P.t6, c.P.l6, c.P.f12, c.P.t7, c.P.l7, c.P.f13, c.P.t8, c.P.l8, c.Q.t, c.Q.f6, c.Q.t1, c.Q.l1, c.Q.f7, c.Q.t2, c.Q.l2, c.Q.f8, c.Q.t3, c.Q.l3, c.Q.f9, c.Q.t4, c.Q.l4, c.Q.f10, c.Q.t5, c.Q.l5, c.Q.f11, c.Q.t6, c.Q.l6, c.Q.f12, c.Q.t7, c.Q.l7, c.Q.f13, c.Q.t8, c.Q.l8, c.Q.f14, c.Q.t9, c.Q.l9, c.nw, c.np, c.nv, c.nb, c.yr, c.bud, c.pot, c.pd, true_and]
  refine ⟨⟨h0, by omega⟩, c12 fb.1 fb.2 ?_⟩
  have e : sm (bt (am_m h (a + 5) p)) 12 = s_nf pp ss p := by
    rw [← nf_sum c.I c.S h0 h1]
    exact sm_congr (fun i hi => c.fan h0 h1 (by omega) (by omega))
  rw [e]
  exact k
theorem c86 {d : Nat} {h : AH} {q i : Int} {K : AK} (t4 : am_t h q = 4) (k : K 0 (if 0 ≤ i ∧ i < am_m h q 0 then 1 else 0) h) : am_call d 86 [(2, q), (0, i)] h K := by
  refine v86 ?_
  simp only [t4, true_and]
  refine ⟨fun z => ⟨Or.inl trivial, by rw [if_neg (by omega)] at k; exact k⟩, fun z => ⟨fun z2 => ⟨Or.inr trivial, by rw [if_pos (by omega)] at k; exact k⟩, fun z2 => ⟨Or.inl trivial, by rw [if_neg (by omega)] at k; exact k⟩⟩⟩
theorem c87 {d : Nat} {h : AH} {q i : Int} {K : AK} (t4 : am_t h q = 4) (k : K 0 (if 0 ≤ i ∧ i < am_m h q 1 then 1 else 0) h) : am_call d 87 [(2, q), (0, i)] h K := by
  refine v87 ?_
  simp only [t4, true_and]
  refine ⟨fun z => ⟨Or.inl trivial, by rw [if_neg (by omega)] at k; exact k⟩, fun z => ⟨fun z2 => ⟨Or.inr trivial, by rw [if_pos (by omega)] at k; exact k⟩, fun z2 => ⟨Or.inl trivial, by rw [if_neg (by omega)] at k; exact k⟩⟩⟩
theorem c88 {d : Nat} {h : AH} {q i : Int} {K : AK} (t4 : am_t h q = 4) (k : K 0 (if 0 ≤ i ∧ i < am_m h q 2 then 1 else 0) h) : am_call d 88 [(2, q), (0, i)] h K := by
  refine v88 ?_
  simp only [t4, true_and]
  refine ⟨fun z => ⟨Or.inl trivial, by rw [if_neg (by omega)] at k; exact k⟩, fun z => ⟨fun z2 => ⟨Or.inr trivial, by rw [if_pos (by omega)] at k; exact k⟩, fun z2 => ⟨Or.inl trivial, by rw [if_neg (by omega)] at k; exact k⟩⟩⟩
/-! ===== the class's state under writes that don't concern it ===== -/
theorem CP.fr {h h1 : AH} {q lo n : Int} {pp : TT} (x : CP h q pp) (fr : Fr lo n h h1) (ap : q + 10 ≤ lo ∨ lo + n ≤ q) : CP h1 q pp := by
  obtain ⟨x1, x2, x3, x4, x5, x6, x7, x8⟩ := x
  have hp := x1.p
  have hb := x1.b
  have e : ∀ j, 0 ≤ j → j < 10 → ∀ i, am_m h1 (q + j) i = am_m h (q + j) i := fun j y1 y2 i => fr.2.2.2.2 (q + j) (by omega) (by omega) i
  have e0 : ∀ i, am_m h1 q i = am_m h q i := fun i => fr.2.2.2.2 q (by omega) (by omega) i
  refine ⟨x1.fr fr ap, (e0 _).trans x2, (e0 _).trans x3, (e0 _).trans x4, (e0 _).trans x5, fun i y1 y2 => (e 1 (by omega) (by omega) i).trans (x6 i y1 y2), fun i y1 y2 => ⟨(e 2 (by omega) (by omega) i).trans (x7 i y1 y2).1, (e 4 (by omega) (by omega) i).trans (x7 i y1 y2).2⟩, fun i y1 y2 => (e 6 (by omega) (by omega) i).trans (x8 i y1 y2)⟩
theorem CS.fr {h h1 : AH} {a lo n q : Int} {pp ss : TT} (x : CS h a pp ss) (x1 : P3 h a q) (fr : Fr lo n h h1) (ap : a + 9 ≤ lo ∨ lo + n ≤ a) : CS h1 a pp ss := by
  obtain ⟨y1, y2, y3, y4, y5, y6⟩ := x
  have hp := x1.p
  have hb := x1.b
  have e : ∀ j, 0 ≤ j → j < 9 → ∀ i, am_m h1 (a + j) i = am_m h (a + j) i := fun j z1 z2 i => fr.2.2.2.2 (a + j) (by omega) (by omega) i
  have e0 : ∀ i, am_m h1 a i = am_m h a i := fun i => fr.2.2.2.2 a (by omega) (by omega) i
  refine ⟨(e0 _).trans y1, (e0 _).trans y2, (e0 _).trans y3, (e0 _).trans y4, fun v z1 z2 => ⟨(e 1 (by omega) (by omega) v).trans (y5 v z1 z2).1, (e 3 (by omega) (by omega) v).trans (y5 v z1 z2).2⟩, fun p z1 z2 => ?_⟩
  obtain ⟨w1, w2, w3, w4, w5⟩ := y6 p z1 z2
  have e5 := e 5 (by omega) (by omega) p
  refine ⟨(e 4 (by omega) (by omega) p).trans w1, (e 2 (by omega) (by omega) p).trans w2, (e 6 (by omega) (by omega) p).trans w3, by rw [e5]; exact w4, fun v z3 z4 => by rw [e5]; exact w5 v z3 z4⟩
theorem CC.fr {h h1 : AH} {a q lo n : Int} {pp ss : TT} (c : CC h a q pp ss) (fr : Fr lo n h h1) (ap : a + 9 ≤ lo ∨ lo + n ≤ a) (aq : q + 10 ≤ lo ∨ lo + n ≤ q) : CC h1 a q pp ss :=
  ⟨c.1.fr fr ap, c.2.1.fr fr aq, c.2.2.1.fr c.1 fr ap, c.I, c.S, c.ap⟩
/-- a write into the rows that the state doesn't speak of: the year's counts, the stack, its size, what is left out -/
theorem CC.wx {h : AH} {a q b i v : Int} {pp ss : TT} (c : CC h a q pp ss) (hb : b = a + 7 ∨ b = a + 8 ∨ (b = a ∧ (i = 14 ∨ i = 2))) : CC (am_w h b i v) a q pp ss := by
  obtain ⟨x1, x2, x3, x4, x5, x6⟩ := c
  have e : ∀ b' i', ¬ (b' = b ∧ i' = i) → am_m (am_w h b i v) b' i' = am_m h b' i' := fun b' i' hn => by rw [am_m_w, if_neg hn]
  refine ⟨x1.w (by omega), ?_, ?_, x4, x5, x6⟩
  · have hf : Fr a 9 h (am_w h b i v) := Fr.rf.w (by omega) (by omega)
    exact x2.fr hf (by omega)
  · obtain ⟨y1, y2, y3, y4, y5, y6⟩ := x3
    refine ⟨(e _ _ (by omega)).trans y1, (e _ _ (by omega)).trans y2, (e _ _ (by omega)).trans y3, (e _ _ (by omega)).trans y4, fun v z1 z2 => ⟨(e _ _ (by omega)).trans (y5 v z1 z2).1, (e _ _ (by omega)).trans (y5 v z1 z2).2⟩, fun p z1 z2 => ?_⟩
    obtain ⟨w1, w2, w3, w4, w5⟩ := y6 p z1 z2
    have e5 := e (a + 5) p (by omega)
    refine ⟨(e _ _ (by omega)).trans w1, (e _ _ (by omega)).trans w2, (e _ _ (by omega)).trans w3, by rw [e5]; exact w4, fun v z3 z4 => by rw [e5]; exact w5 v z3 z4⟩
