/-! ===== the reference's teach ===== -/
section
variable {d D : Nat} {h : AH} {pp ss : TT} {tt : Int → List Op} {tp : Int → Int} {tl er q : Int} {K : AK}
theorem c201 (hD : 70 ≤ D) (g : GM h pp ss tt tl tp er q) (hr : ∀ i, 0 ≤ i → i < tl → 0 ≤ tp i ∧ tp i < 256) (hL : ∀ E Bs R, gAll (s_kd tp tl) 400 0 = .inr (E, Bs, R) → (run (roF R) (s_va tp tl) E 0 f00).1 = 0 → ∀ i, 0 ≤ i → i < (run (roF R) (s_va tp tl) E 0 f00).2.2 3 0 → ((ttF Bs (run (roF R) (s_va tp tl) E 0 f00).2.2 i).length : Int) ≤ 400) (kE : ∀ e pl, TE tp tl e pl → ∀ h2, Fr 53 34 h h2 → GM h2 pp ss tt 0 tp (s_st tp tl pl) q → K 0 e h2) (kG : ∀ E Bs R, gAll (s_kd tp tl) 400 0 = .inr (E, Bs, R) → (run (roF R) (s_va tp tl) E 0 f00).1 = 0 → ∀ h2 q2, Fr 53 34 h h2 → GM h2 (run (roF R) (s_va tp tl) E 0 f00).2.2 (s_bg (run (roF R) (s_va tp tl) E 0 f00).2.2 (ss 0 0)) (ttF Bs (run (roF R) (s_va tp tl) E 0 f00).2.2) 0 tp (-1) q2 → K 0 0 h2) : am_call D 201 [(2, 53)] h K := by
  obtain ⟨d, rfl⟩ : ∃ d, D = d + 6 + 1 + 1 := ⟨D - 8, by omega⟩
  have hn := g.n
  have hq := g.qd
  have tb := g.tb
  have M := g.c.M
  refine v201 ⟨M.t, M.t, ⟨M.t, by decide, by decide⟩, ?_⟩
  have g1 : GM (am_w (am_w h 53 0 0) 53 3 (-1)) pp ss tt tl tp (-1) q := by
    have gt : GM (am_w h 53 0 0) pp ss tt tl tp er q := g.th
    obtain ⟨a1, a2, a3, a4, a5, a6, a7, a8, a9, a10, a11, a12⟩ := gt
    have e : ∀ b i, ¬ (b = 53 ∧ i = 3) → am_m (am_w (am_w h 53 0 0) 53 3 (-1)) b i = am_m (am_w h 53 0 0) b i := fun b i z => by rw [am_m_w, if_neg z]
    have f1 : Fr 53 1 (am_w h 53 0 0) (am_w (am_w h 53 0 0) 53 3 (-1)) := Fr.rf.w (by decide) (by decide)
    obtain ⟨x1, x2, x3, x4, x5, x6, x7, x8⟩ := a1
    exact ⟨⟨x1.w (Or.inr (by decide)), x2.fr f1 (by omega), x3.fr f1 (by omega), x4.fr x2 f1 (by omega), x5, x6, (e _ _ (by omega)).trans x7, x8⟩, (e _ _ (by omega)).trans a2, a3.fr x3.1 f1 (by omega), a4.fr f1 (by omega), (e _ _ (by omega)).trans a5, by rw [am_m_w, if_pos ⟨rfl, rfl⟩], a7, a8, a9, a10, a11, fun i h0 h1 => (e _ _ (by omega)).trans (a12 i h0 h1)⟩
  have r1 : RX h (am_w (am_w h 53 0 0) 53 3 (-1)) := (RX.rf.w (by omega)).w (by omega)
  generalize am_w (am_w h 53 0 0) 53 3 (-1) = h1 at g1 r1 ⊢
  have hn1 := r1.1.1
  have M1 := g1.c.M
  -- a new plan
  refine v198 ⟨⟨by decide, by decide⟩, ⟨by omega, by decide, by decide⟩, c127 rfl (by omega) (fun h2 np => okx ?_)⟩
  obtain ⟨fr2, p2, n2, zi2, b82, zr2⟩ := np
  have hap : 88 ≤ am_n h1 := by omega
  generalize ea : am_n h1 = a at fr2 p2 n2 zi2 b82 zr2 hap ⊢
  have g2 : GM h2 pp ss tt tl tp (-1) q := g1.fr fr2 (by decide)
  have r2 : RX h h2 := r1.st fr2.bs (fun c j hc _ _ => fr2.2.2.2.2 c (by omega) (by omega) j)
  have g3 : GM (am_w h2 53 13 a) pp ss tt tl tp (-1) q := by
    have e : ∀ b i, ¬ (b = 53 ∧ i = 13) → am_m (am_w h2 53 13 a) b i = am_m h2 b i := fun b i z => by rw [am_m_w, if_neg z]
    exact g2.uf (Fr.rf.w (by decide) (by decide)) (g2.c.M.w (Or.inr (by decide))) ((e _ _ (by omega)).trans g2.tl) ((e _ _ (by omega)).trans g2.er) ((e _ _ (by omega)).trans g2.c.bud) tb (fun i h0 h1 => (e _ _ (by omega)).trans (g2.tm i h0 h1))
  have r3 : RX h (am_w h2 53 13 a) := r2.w (by omega)
  have e13 : am_m (am_w h2 53 13 a) 53 13 = a := by rw [am_m_w, if_pos ⟨rfl, rfl⟩]
  have pn : ∀ b i, b ≠ 53 → am_m (am_w h2 53 13 a) b i = am_m h2 b i := fun b i z => by rw [am_m_w, if_neg (fun y => z y.1)]
  have n3 : am_n (am_w h2 53 13 a) = a + 11 := n2
  have p3 : P7 (am_w h2 53 13 a) a := p2.w (Or.inl (by omega))
  refine ⟨g2.c.M.t, g2.c.M.t, ?_⟩
  have z3 : (∀ i, ZI i → am_m (am_w h2 53 13 a) a i = 0) ∧ am_m (am_w h2 53 13 a) a 8 = 100 ∧ ∀ b i, a + 1 ≤ b → b ≤ a + 10 → am_m (am_w h2 53 13 a) b i = 0 := ⟨fun i hi => (pn _ _ (by omega)).trans (zi2 i hi), (pn _ _ (by omega)).trans b82, fun b i z1 z2 => (pn _ _ (by omega)).trans (zr2 b i z1 z2)⟩
  generalize am_w h2 53 13 a = h3 at g3 r3 e13 n3 p3 z3 ⊢
  -- the tape is cut
  refine c165 g3 hr (fun h4 N f4 g4 en rn => okx ?_)
  have r4 : RX h h4 := r3.st f4.bs (fun c j hc z1 z2 => f4.2.2.2.2 c (by omega) (by omega) j)
  have c4 : ∀ b i, 60 ≤ b → b < a + 11 → am_m h4 b i = am_m h3 b i := fun b i z1 z2 => f4.2.2.2.2 b (by omega) (by omega) i
  have n4 : a + 11 ≤ am_n h4 := by have := f4.1; omega
  have p4 : P7 h4 a := p3.cg f4.bs (fun i _ => c4 a i (by omega) (by omega))
  have e134 : am_m h4 53 13 = a := (f4.2.2.2.2 53 (by omega) (by omega) 13).trans e13
  have M4 := g4.c.M
  refine ⟨M4.t, M4.t, M4.t, ?_⟩
  have w5 : ∀ b i, ¬ (b = 53 ∧ (i = 10 ∨ i = 11)) → am_m (am_w (am_w h4 53 10 0) 53 11 0) b i = am_m h4 b i := fun b i z => by rw [am_m_w, if_neg (by omega), am_m_w, if_neg (by omega)]
  have r5 : RX h (am_w (am_w h4 53 10 0) 53 11 0) := (r4.w (by omega)).w (by omega)
  have p5 : P7 (am_w (am_w h4 53 10 0) 53 11 0) a := (p4.w (Or.inl (by omega))).w (Or.inl (by omega))
  have e1010 : am_m (am_w (am_w h4 53 10 0) 53 11 0) 53 10 = 0 ∧ am_m (am_w (am_w h4 53 10 0) 53 11 0) 53 11 = 0 := by
    refine ⟨by rw [am_m_w, if_neg (by decide), am_m_w, if_pos ⟨rfl, rfl⟩], by rw [am_m_w, if_pos ⟨rfl, rfl⟩]⟩
  have bs5 : BS h4 (am_w (am_w h4 53 10 0) 53 11 0) := ⟨Int.le_refl _, rfl, fun _ => rfl, fun _ _ => ⟨rfl, rfl⟩⟩
  have tg5 : ∀ b, am_t (am_w (am_w h4 53 10 0) 53 11 0) b = am_t h4 b ∧ am_l (am_w (am_w h4 53 10 0) 53 11 0) b = am_l h4 b := fun b => ⟨rfl, rfl⟩
  have n5 : am_n (am_w (am_w h4 53 10 0) 53 11 0) = am_n h4 := rfl
  generalize am_w (am_w h4 53 10 0) 53 11 0 = h5 at w5 r5 p5 e1010 bs5 tg5 n5 ⊢
  have e135 : am_m h5 53 13 = a := (w5 _ _ (by omega)).trans e134
  have z5 : ∀ i, ZI i → am_m h5 a i = 0 := fun i hi => ((w5 _ _ (by omega)).trans (c4 a i (by omega) (by omega))).trans (z3.1 i hi)
  have gr : GR h5 a (s_kd tp tl) (s_va tp tl) N := by
    refine ⟨(tg5 53).1.trans M4.t, (w5 _ _ (by omega)).trans M4.f5, (tg5 55).1.trans M4.t2, (tg5 55).2.trans M4.l2, (w5 _ _ (by omega)).trans M4.f8, (tg5 58).1.trans M4.t5, (tg5 58).2.trans M4.l5, e135, p5, hap, fun j hj => (w5 _ _ (by omega)).trans (rn j (by omega)).1, fun j hj => kd_kv hr tb.1 en hj, en.1, en.2.1, en.2.2, fun d h2 j K fq hj kj k => ?_⟩
    have gq := gq_of (ro := fun _ => 0) (E := N) g4 rn en hr (h := h5) (a := a) (fun b _ => tg5 b) (fun j hj => w5 _ _ (by omega)) (fun b i hb => w5 _ _ (by omega)) e135 p5 hap (Nat.le_refl _) (fun k hk => (w5 _ _ (by omega)).trans ((rn k (by omega)).2.2.1.trans rfl))
    have jN : j < N := by
      by_cases y : j = N
      · rw [y] at kj
        have := en.2.1
        omega
      · omega
    exact c188 gq ⟨fun b hb => fq.1.2.2.2 b (by omega), fun i hi => fq.2 53 i (by omega) (by omega) (by omega) (by omega) (by omega) (by omega) (by omega) (by omega), fun b i hb => fq.2 b i (by omega) (by omega) (by omega) (by omega) (by omega) (by omega) (by omega) (by omega)⟩ jN kj k
  have xr : XR h5 h5 a (s_kd tp tl) (s_va tp tl) N h5 0 [] [] := by
    refine ⟨⟨gr, FM.rf, e1010.1, e1010.2, z5 15 (by unfold ZI; decide), trivial, z5 17 (by unfold ZI; decide), trivial, trivial, rfl, Nat.zero_le _, fun j _ hj => (w5 _ _ (by omega)).trans (rn j (by omega)).2.2.1⟩, ⟨Nat.le_refl _, Nat.le_refl _⟩, FQM.rf, z5 10 (by unfold ZI; decide), trivial, Nat.le_refl _⟩
  -- an error at a token: its place is told
  have tell : ∀ (h6 : AH) (e : Int) (pl : Nat), RX h h6 → TE tp tl e pl → am_m h6 56 (pl : Int) = s_st tp tl pl → K 0 e (am_w (am_w h6 53 3 (am_m h6 56 (pl : Int))) 53 2 0) := by
    intro h6 e pl r te e6
    rw [e6]
    have r7 : RX h (am_w (am_w h6 53 3 (s_st tp tl pl)) 53 2 0) := (r.w (by omega)).w (by omega)
    refine kE e pl te _ (r7.fr.wide (by decide) (by decide)) (g.keep r7 (by rw [am_m_w, if_pos ⟨rfl, rfl⟩]) ?_)
    rw [am_m_w, if_neg (by decide), am_m_w, if_pos ⟨rfl, rfl⟩]
  have rq : ∀ {h6 : AH}, FQM h5 h6 a → RX h h6 := fun fq => r5.st fq.1 (fun c j hc z1 z2 => fq.2 c j (by have := r5.1.1; omega) (by omega) (by omega) (by omega) (by omega) (by omega) (by omega) (by omega))
  have tq : ∀ {h6 : AH}, FQM h5 h6 a → am_t h6 53 = 9 ∧ (am_m h6 53 6 = 56 ∧ am_t h6 56 = 20 ∧ am_l h6 56 = 401) ∧ am_m h6 53 13 = a ∧ ∀ i, am_m h6 56 i = am_m h4 56 i := fun fq => ⟨((fq.1.2.2.2 53 (by omega)).1.trans (tg5 53).1).trans M4.t, ⟨((fq.2 53 6 (by omega) (by omega) (by omega) (by omega) (by omega) (by omega) (by omega) (by omega)).trans (w5 _ _ (by omega))).trans M4.f6, ((fq.1.2.2.2 56 (by omega)).1.trans (tg5 56).1).trans M4.t3, ((fq.1.2.2.2 56 (by omega)).2.trans (tg5 56).2).trans M4.l3⟩, (fq.2 53 13 (by omega) (by omega) (by omega) (by omega) (by omega) (by omega) (by omega) (by omega)).trans e135, fun i => (fq.2 56 i (by omega) (by omega) (by omega) (by omega) (by omega) (by omega) (by omega) (by omega)).trans (w5 _ _ (by omega))⟩
  have N4 := en.1
  refine c172 (by omega) xr ?_
  generalize er : gAll (s_kd tp tl) 400 0 = r
  cases r with
  | inl pl =>
    intro hp h6 fq po
    obtain ⟨t6, ⟨m6, t56, l56⟩, -, e56⟩ := tq fq
    refine okx ⟨fun _ => ?_, fun y => absurd rfl y⟩
    rw [m6, po, t56, l56]
    refine ⟨t6, t6, ⟨rfl, by omega, by omega⟩, t6, okx ⟨t6, fun _ => ?_, fun y => absurd (by decide) y⟩⟩
    exact tell h6 1 pl (rq fq) (Or.inl ⟨er, rfl⟩) ((e56 _).trans (rn pl (by omega)).2.1)
  | inr r =>
    obtain ⟨E, Bs, R⟩ := r
    intro h0 h6 xr6
    have xr6' : XR h5 h0 a (s_kd tp tl) (s_va tp tl) N h6 E Bs R := xr6
    obtain ⟨xm, ww, fq0, n10, xq, lB⟩ := xr6'
    obtain ⟨gE, gR, gB, gN, gT⟩ := g_list er
    have fq : FQM h5 h6 a := fq0.tr xm.f.q
    obtain ⟨t6, ⟨m6, t56, l56⟩, e136, e56⟩ := tq fq
    have iN := xm.iN
    have nh := r5.1.1
    have nh6 := fq.1.1
    have p5b := p5.b
    have e6n : ∀ b i, b < am_n h5 → b ≠ 53 → b ≠ 58 → ¬ (b = a ∧ (i = 10 ∨ i = 15 ∨ i = 17)) → ¬ (a + 7 ≤ b ∧ b ≤ a + 10) → am_m h6 b i = am_m h5 b i := fun b i z0 z1 z2 z3 z4 => fq.2 b i z0 (by omega) z2 z3 (by omega) (by omega) (by omega) (by omega)
    have e653 : ∀ i, ¬ (i = 10 ∨ i = 11) → am_m h6 53 i = am_m h5 53 i := fun i z => fq.2 53 i (by omega) (by omega) (by omega) (by omega) (by omega) (by omega) (by omega) (by omega)
    refine okx ⟨fun y => absurd y (by decide), fun _ => ⟨t6, t6, ?_⟩⟩
    rw [xm.po]
    have p6 : P7 h6 a := p5.cg fq.1 (fun i hi => e6n a i (by omega) (by omega) (by omega) (by omega) (by omega))
    -- the heap the checks begin at
    have ew : ∀ b i, ¬ (b = 53 ∧ i = 10) → am_m (am_w h6 53 10 0) b i = am_m h6 b i := fun b i z => by rw [am_m_w, if_neg z]
    have bw : BS h6 (am_w h6 53 10 0) := ⟨Int.le_refl _, rfl, fun _ => rfl, fun _ _ => ⟨rfl, rfl⟩⟩
    have ew0 : am_m (am_w h6 53 10 0) 53 10 = 0 := by rw [am_m_w, if_pos ⟨rfl, rfl⟩]
    have r7 : RX h (am_w h6 53 10 0) := (rq fq).w (by omega)
    have tw : ∀ b, am_t (am_w h6 53 10 0) b = am_t h6 b ∧ am_l (am_w h6 53 10 0) b = am_l h6 b := fun b => ⟨rfl, rfl⟩
    generalize am_w h6 53 10 0 = h7 at ew bw ew0 r7 tw ⊢
    have hn7 := bw.1
    have p7 : P7 h7 a := p6.cg bw (fun i _ => ew a i (by omega))
    have g7 : GQ h7 a tp tl (s_kd tp tl) (roF R) (s_va tp tl) (s_st tp tl) (s_mz tp tl) E := by
      refine gq_of g4 rn en hr (fun b hb => ⟨((tw b).1.trans (fq.1.2.2.2 b (by omega)).1).trans (tg5 b).1, ((tw b).2.trans (fq.1.2.2.2 b (by omega)).2).trans (tg5 b).2⟩) (fun j hj => ((ew _ _ (by omega)).trans (e653 j (by omega))).trans (w5 _ _ (by omega))) (fun b i hb => ((ew _ _ (by omega)).trans (e6n b i (by omega) (by omega) (by omega) (by omega) (by omega))).trans (w5 _ _ (by omega))) ((ew _ _ (by omega)).trans e136) p7 (by omega) iN (fun k hk => (ew _ _ (by omega)).trans ?_)
      have := xm.ro.get (z := 0) k (by rw [List.length_map, xm.rl]; exact hk)
      rw [map_getD, show (0 : Int) + (k : Int) = (k : Int) by omega] at this
      exact this
    have ea7 : ∀ i, ¬ (i = 10 ∨ i = 15 ∨ i = 17) → am_m h7 a i = am_m h3 a i := fun i z => (((ew _ _ (by omega)).trans (e6n a i (by omega) (by omega) (by omega) (by omega) (by omega))).trans (w5 _ _ (by omega))).trans (c4 a i (by omega) (by omega))
    have mk0 : MK h7 a (roF R) h7 0 f00 := by
      refine ⟨FN.rf, fun as c hc => ?_, (ea7 8 (by decide)).trans z3.2.1, fun as off b _ i hi => absurd hi (Nat.not_lt_zero i), fun v hv => ?_, fun k hk => absurd hk (Nat.not_lt_zero k)⟩
      · unfold NC2 at hc
        exact (ea7 c (by omega)).trans (z3.1 c (by unfold ZI; omega))
      · have ez : am_m h7 (a + 5) (v : Int) = 0 := (((ew _ _ (by omega)).trans (e6n (a + 5) v (by omega) (by omega) (by omega) (by omega) (by omega))).trans (w5 _ _ (by omega))).trans ((c4 (a + 5) v (by omega) (by omega)).trans (z3.2.2 (a + 5) v (by omega) (by omega)))
        rw [ez]
        refine ⟨by decide, fun p q0 q1 => ?_⟩
        rw [bit0 p q0 q1]
        rfl
    have rf : ∀ j, j < E → RF (s_kd tp tl) (roF R) (s_va tp tl) j := fun j hj => (gR j hj).rf hr tb.1 en (by omega)
    have fnr : ∀ {h8 : AH}, FN h7 h8 a → RX h h8 := fun fn => r7.st fn.1 (fun c j hc z1 z2 => fn.2 c j (by have := r7.1.1; omega) (by omega) (by omega) (by omega) (by omega))
    have tel : ∀ {h8 : AH}, FN h7 h8 a → am_t h8 53 = 9 := fun fn => (g7.hh fn).1
    have rr := run_rg (ro := roF R) (va := s_va tp tl) E 0 f00
    refine c198_57m (by omega) g7 rf ew0 mk0 (fun z zl h8 fn => okx ⟨show am_t h8 53 = 9 from tel fn, fun _ => tell h8 _ _ (fnr fn) (Or.inr ⟨E, Bs, R, er, rfl, z, rfl⟩) ?_, fun y => absurd ?_ y⟩) (fun z h8 mk => ?_)
    · exact (((fn.2 56 _ (by omega) (by omega) (by omega) (by omega) (by omega)).trans (ew _ _ (by omega))).trans (e56 _)).trans (rn _ (by omega)).2.1
    · rcases rr with y2 | y2
      · exact absurd y2 z
      · omega
    have fi := run_fi rf E 0 f00 (Nat.zero_add _) FI.i0 z
    have kg := kG E Bs R er z
    have hl := hL E Bs R er z
    generalize (run (roF R) (s_va tp tl) E 0 f00).2.2 = f at fi mk kg hl
    have r8 := fnr mk.fn
    have p8 : P7 h8 a := p7.cg mk.fn.1 (fun i hi => mk.fn.2 a i (by omega) (by omega) (by omega) (by omega) (by omega))
    obtain ⟨t8, -, ⟨f9, t59, l59⟩, f13, t7⟩ := g7.hh mk.fn
    have qn := xm.qn
    have e87 : ∀ b i, (b = a + 7 ∨ b = a + 8 ∨ b = a + 9 ∨ b = a + 10 ∨ (b = a ∧ i = 17)) → am_m h8 b i = am_m h6 b i := fun b i z => (mk.fn.2 b i (by omega) (by omega) (by omega) (by omega) (by omega)).trans (ew _ _ (by omega))
    have ro9 : RW (fun i => am_m h8 (a + 9) i) 0 (mcs (s_va tp tl) (bos Bs)) := RW.cg (fun i _ _ => e87 _ _ (by omega)) xm.co
    have ro10 : RW (fun i => am_m h8 (a + 10) i) 0 (mos (s_va tp tl) 0 (bos Bs)) := RW.cg (fun i _ _ => e87 _ _ (by omega)) xm.op
    have c17 := (e87 a 17 (by omega)).trans xm.os
    have arB : ∀ o ∈ bos Bs, AR (roF R) E o := fun o ho => by
      obtain ⟨b, hb, ho⟩ := bos_mem ho
      exact (gT b hb).2 o ho
    obtain ⟨lC, lO⟩ := ww
    refine c198_111 (by omega) t8 f13 t7 p8.f16 ⟨p8.t10, p8.l10⟩ p8.f14 ⟨p8.t9, p8.l9⟩ f9 ⟨t59, l59⟩ c17 (by omega) ro10 mos_srt (fun p hp => ?_) (fun h9 b9 e9 c9 => okx ?_)
    · have y1 := mos_rg hp
      have y2 := mos_val ro9 arB hp
      have y3 : 0 ≤ am_m h8 (a + 9) p ∧ am_m h8 (a + 9) p < (E : Int) := y2
      omega
    have t99 : am_t h9 53 = 9 := (b9.2.2.2 53 (by have := r8.1.1; omega)).1.trans t8
    have r9 : RX h h9 := r8.st b9 (fun c j hc z1 z2 => e9 c j (by omega))
    have e93 : am_m h9 53 3 = -1 := (e9 53 3 (by omega)).trans ((mk.fn.2 53 3 (by omega) (by omega) (by omega) (by omega) (by omega)).trans ((ew _ _ (by omega)).trans ((e653 3 (by decide)).trans ((w5 _ _ (by omega)).trans g4.er))))
    have e913 : am_m h9 53 13 = a := (e9 53 13 (by omega)).trans f13
    have e914 : am_m h9 53 14 = 71 := (r9.2 53 14 (by omega) (by omega) (by omega)).trans g.c.M.f14
    have e98 : am_m h9 a 8 = f 8 0 := (e9 a 8 (by omega)).trans mk.bg
    obtain ⟨cp, cb⟩ := mk.plan fi gB (by omega) p7 b9 e9
    have hpi := fi.pi gB
    have hpb := fi.pb gB
    have ct : MT h9 a f (ttF Bs f) := by
      intro i h0' h1'
      have c4' := fi.c4
      have lenB : Bs.length = cn (roF R) 4 E := by rw [← nl_len, gN, List.length_map]
      have hi : i.toNat < Bs.length := by omega
      have mem := getD_mem (d := ((0, []) : Nat × List Op)) hi
      refine ⟨tst_of fi (gT _ mem).1 (gT _ mem).2, hl i h0' h1', ?_⟩
      have := spm_all (d := ((0, []) : Nat × List Op)) (h := h8) (h2 := h9) (h0 := h0) (q := a) (O := mos (s_va tp tl) 0 (bos Bs)) fi mk.me (fun i => (e9 _ _ (by omega)).trans ((e87 _ _ (by omega)).trans (xm.f.2 (a + 7) i (by omega) (by omega) (by omega) (by omega) (by omega) (by omega)))) (fun i => (e9 _ _ (by omega)).trans ((e87 _ _ (by omega)).trans (xm.f.2 (a + 8) i (by omega) (by omega) (by omega) (by omega) (by omega) (by omega)))) xq ro9 (fun i _ _ => c9 i) (fun i _ _ => Iff.rfl) (fun b hb => (gT b hb).2) (Int.le_refl _) (by omega) i.toNat hi (by omega)
      rw [show ((0 + i.toNat : Nat) : Int) = i by omega] at this
      exact this
    have x13 : am_m (am_w h9 53 2 0) 53 13 = a := by
      rw [am_m_w, if_neg (by decide)]
      exact e913
    have x12 : am_m (am_w (am_w h9 53 2 0) 53 12 a) 53 12 = a := by rw [am_m_w, if_pos ⟨rfl, rfl⟩]
    have x8 : am_m (am_w (am_w h9 53 2 0) 53 12 a) a 8 = f 8 0 := by
      rw [am_m_w, if_neg (by omega), am_m_w, if_neg (by omega)]
      exact e98
    have x14 : am_m (am_w (am_w (am_w h9 53 2 0) 53 12 a) 53 4 (f 8 0)) 53 14 = 71 := by
      rw [am_m_w, if_neg (by decide), am_m_w, if_neg (by decide), am_m_w, if_neg (by decide)]
      exact e914
    have t71 : am_t h9 71 = 8 := (r9.1.2.2.2 71 (by omega)).1.trans g.c.B.1
    have t7a : am_t h9 a = 7 := cp.1.t
    refine ⟨t99, fun y => absurd y (by decide), fun _ => ?_⟩
    rw [x13, x12, x8, x14]
    exact ⟨t99, t99, t99, t7a, t99, t99, t71, c201_end (d := d + 1) g r9 e93 (by omega) cp cb hpi hpb ct kg⟩
end
