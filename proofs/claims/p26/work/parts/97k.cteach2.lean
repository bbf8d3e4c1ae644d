/-! ===== the class's teach: the call ===== -/
theorem c91b {d : Nat} {h : AH} {j : Int} {K : AK} (t : am_t h 22 = 5) (f2 : am_m h 22 2 = 25) (t2 : am_t h 25 = 20 ∧ am_l h 25 = 401) (h0 : 0 ≤ j ∧ j < 401) (k : K 0 (am_m h 25 j) h) : am_call d 91 [(2, 22), (0, j)] h K := by
  refine v91 ⟨fun z => absurd z (by omega), fun _ => ?_⟩
  simp only [t, f2, t2.1, t2.2, true_and]
  exact ⟨⟨by decide, by decide⟩, fun _ => ⟨h0, k⟩, fun z => absurd h0.2 z⟩
theorem TX.tk {h : AH} {dq tl : Int} {tp : Int → Int} (x : TX h dq) (t1 : am_t h 1 = 21 ∧ am_l h 1 = 2000) (tb : 0 ≤ tl ∧ tl ≤ 2000) (tc : ∀ i, 0 ≤ i → i < tl → am_m h 1 i = am_i2b (tp i)) (tr : ∀ i, 0 ≤ i → i < tl → 0 ≤ tp i ∧ tp i < 256) : TK (am_w (am_w h 22 5 tl) 22 6 0) tl 0 tp := by
  have e : ∀ b i, ¬ (b = 22 ∧ (i = 5 ∨ i = 6)) → am_m (am_w (am_w h 22 5 tl) 22 6 0) b i = am_m h b i := fun b i z => by rw [am_m_w, if_neg (by omega), am_m_w, if_neg (by omega)]
  exact ⟨x.t22, (e _ _ (by decide)).trans x.a0, (e _ _ (by decide)).trans x.a1, (e _ _ (by decide)).trans x.a2, (e _ _ (by decide)).trans x.a3, (e _ _ (by decide)).trans x.a4, by rw [am_m_w, if_neg (by decide), am_m_w, if_pos ⟨rfl, rfl⟩], by rw [am_m_w, if_pos ⟨rfl, rfl⟩], x.t23.1, x.t23.2, x.t24.1, x.t24.2, x.t25.1, x.t25.2, x.t26.1, x.t26.2, t1.1, t1.2, x.n, tb, ⟨Int.le_refl _, tb.1⟩, fun i h0 h1 => (e _ _ (by omega)).trans (tc i h0 h1), tr, fun i h0 h1 => (e _ _ (by omega)).trans (x.kw i h0 h1)⟩
theorem TX.sw {h : AH} {dq q : Int} (x : TX h dq) (p : P4 h q) (hq : q = 2 ∨ q = 12) : TX h q := ⟨x.t22, x.a0, x.a1, x.a2, x.a3, x.a4, x.t23, x.t24, x.t25, x.t26, x.kw, x.t27, x.b0, x.b1, x.b3, x.t28, x.t29, x.t30, x.d1, x.d2, x.d3, x.d4, x.d5, x.d6, x.t31, x.t32, x.t33, x.t34, p, hq, x.n⟩
theorem CB.fr {h h1 : AH} {q lo n : Int} {pp : TT} (x : CB h q pp) (p : P4 h q) (f : Fr lo n h h1) (ap : q + 10 ≤ lo ∨ lo + n ≤ q) : CB h1 q pp := by
  have b := p.b
  have e : ∀ c, q ≤ c → c ≤ q + 9 → ∀ i, am_m h1 c i = am_m h c i := fun c h0 h1 i => f.2.2.2.2 c (by omega) (by omega) i
  refine ⟨(e q (by omega) (by omega) 4).trans x.1, fun i h0 h1 => ?_⟩
  rw [e (q + 3) (by omega) (by omega), e (q + 5) (by omega) (by omega)]
  exact x.2 i h0 h1
theorem nlast {ro : Nat → Int} {E : Nat} {Bs : List (Nat × List Op)} (e : nl ro 4 E = Bs.map Prod.fst) (h : Bs ≠ []) : 0 < E := by
  cases E with
  | zero =>
    have e' : ([] : List Nat) = Bs.map Prod.fst := e
    cases Bs with
    | nil => exact absurd rfl h
    | cons b r => cases e'
  | succ E => omega
section
variable {d D : Nat} {h : AH} {pp ss : TT} {tt : Int → List Op} {tp : Int → Int} {tl er q dq : Int} {K : AK}
theorem c105 (hD : 60 ≤ D) (g : GC h pp ss tt tl tp er q dq) (x : TX h dq) (hr : ∀ i, 0 ≤ i → i < tl → 0 ≤ tp i ∧ tp i < 256) (kE : ∀ e pl, TE tp tl e pl → ∀ h2, Fr 0 53 h h2 → GC h2 pp ss tt 0 tp (s_st tp tl pl) q dq → TX h2 dq → K 0 e h2) (kG : ∀ E Bs R, gAll (s_kd tp tl) 400 0 = .inr (E, Bs, R) → (run (roF R) (s_va tp tl) E 0 f00).1 = 0 → ∀ h2, Fr 0 53 h h2 → GC h2 (run (roF R) (s_va tp tl) E 0 f00).2.2 (s_bg (run (roF R) (s_va tp tl) E 0 f00).2.2 (ss 0 0)) (ttF Bs (run (roF R) (s_va tp tl) E 0 f00).2.2) 0 tp (-1) dq q → TX h2 q → K 0 0 h2) : am_call D 105 [(2, 0)] h K := by
  obtain ⟨d, rfl⟩ : ∃ d, D = d + 6 + 1 := ⟨D - 7, by omega⟩
  have hn := g.n
  have hq := g.qd
  have tb := g.tb
  refine v105 ?_
  rw [g.f5, g.f1]
  refine ⟨g.t0, g.t0, x.t22, c90 (x.tk ⟨g.t1, g.l1⟩ tb g.tc hr) x.a4 (fun h1 N po f1 tk en to => okx ?_)⟩
  have hf1 := f1.1
  have tx1 : TX h1 dq := x.cg f1.bs (fun i z1 z2 => by
    have : i = 0 ∨ i = 1 ∨ i = 2 ∨ i = 3 ∨ i = 4 := by omega
    rcases this with y | y | y | y | y
    · rw [y, tk.f0, x.a0]
    · rw [y, tk.f1, x.a1]
    · rw [y, tk.f2, x.a2]
    · rw [y, tk.f3, x.a3]
    · rw [y, tk.f4, x.a4]) (fun i z1 z2 => (tk.kw i z1 z2).trans (x.kw i z1 z2).symm) (fun i _ => f1.2.2.2.2 27 (by omega) (by omega) i) (fun i _ _ => f1.2.2.2.2 30 (by omega) (by omega) i) (x.p.cg f1.bs (fun i _ _ => f1.2.2.2.2 dq (by omega) (by omega) i))
  have e0 : ∀ i, am_m h1 0 i = am_m h 0 i := fun i => f1.2.2.2.2 0 (by omega) (by omega) i
  have t0 : am_t h1 0 = 6 := (f1.2.2.2.1 0 (by omega)).1.trans g.t0
  have es6 : am_m (am_w h1 0 1 0) 0 6 = 27 := by
    rw [am_m_w, if_neg (by decide), e0]
    exact g.f6
  have es4 : am_m (am_w h1 0 1 0) 0 4 = dq := by
    rw [am_m_w, if_neg (by decide), e0]
    exact g.f4
  rw [es6, es4]
  have r0 : RT h1 (am_w (am_w (am_w (am_w h1 0 1 0) 27 4 dq) dq 5 0) 27 2 0) dq := (((RT.rf.w (by omega)).w (by omega)).w (by omega)).w (by omega)
  have em : ∀ b i, ¬ (b = 0 ∧ i = 1) → ¬ (b = 27 ∧ (i = 2 ∨ i = 4)) → ¬ (b = dq ∧ i = 5) → am_m (am_w (am_w (am_w (am_w h1 0 1 0) 27 4 dq) dq 5 0) 27 2 0) b i = am_m h1 b i := fun b i z1 z2 z3 => by
    rw [am_m_w, if_neg (by omega), am_m_w, if_neg (by omega), am_m_w, if_neg (by omega), am_m_w, if_neg (by omega)]
  have txt : TX (am_w (am_w (am_w (am_w h1 0 1 0) 27 4 dq) dq 5 0) 27 2 0) dq := r0.tx tx1
  have gs : GS (am_w (am_w (am_w (am_w h1 0 1 0) 27 4 dq) dq 5 0) 27 2 0) dq (s_kd tp tl) N := by
    refine ⟨txt.t27, txt.b0, txt.b1, txt.b3, ?_, txt.t28.1, txt.t28.2, txt.t29.1, txt.t29.2, txt.t22, txt.a0, txt.t23.1, txt.t23.2, fun j hj => (em _ _ (by omega) (by omega) (by omega)).trans (to j (by omega)).1, en.1, en.2.1, en.2.2, txt.p, txt.qd, txt.n⟩
    rw [am_m_w, if_neg (by decide), am_m_w, if_neg (by omega), am_m_w, if_pos ⟨rfl, rfl⟩]
  have e01 : am_m (am_w (am_w (am_w (am_w h1 0 1 0) 27 4 dq) dq 5 0) 27 2 0) 0 1 = 0 := by
    rw [am_m_w, if_neg (by decide), am_m_w, if_neg (by omega), am_m_w, if_neg (by decide), am_m_w, if_pos ⟨rfl, rfl⟩]
  refine ⟨t0, t0, t0, tx1.t27, c28 (by omega) gs ?_⟩
  -- an error at a token: its place is told
  have tell : ∀ (h3 : AH) (e : Int) (pl : Nat) (K' : AK), RT h1 h3 dq → am_m h3 0 1 = 0 → TE tp tl e pl → pl ≤ N → (∀ z, K' 0 z h3 = am_okx 0 ((am_t h3 0 = 6) ∧ K 0 e (am_w h3 0 2 z))) → am_call (d + 6) 91 [(2, 22), (0, (pl : Int))] h3 K' := by
    intro h3 e pl K' r e1 te hp hK
    have tx3 := r.tx tx1
    have ep : am_m h3 25 (pl : Int) = s_st tp tl pl := (r.2 25 _ (by omega) (by omega)).trans (to pl (by omega)).2.2
    refine c91b tx3.t22 tx3.a2 tx3.t25 ⟨by omega, by have := en.1; omega⟩ ?_
    rw [hK, ep]
    have r4 : RT h1 (am_w h3 0 2 (s_st tp tl pl)) dq := r.w (by omega)
    refine okx ⟨(r.1.2.2.2 0 (by omega)).1.trans t0, kE e pl te _ ?_ (g.keep f1 r4 ?_ ?_) (r4.tx tx1)⟩
    · have f1' : Fr 0 53 h h1 := f1.wide (by decide) (by decide)
      exact f1'.tr ⟨r4.1.1, r4.1.2.1, r4.1.2.2.1, r4.1.2.2.2, fun b hb z i => r4.2 b i hb (by omega)⟩
    · rw [am_m_w, if_neg (by decide)]
      exact e1
    · rw [am_m_w, if_pos ⟨rfl, rfl⟩]
  have mv : ∀ {h3 : AH}, RT h1 h3 dq → am_t h3 0 = 6 ∧ (am_m h3 0 5 = 22 ∧ am_m h3 0 6 = 27 ∧ am_m h3 0 7 = 30 ∧ am_m h3 0 8 = 35) ∧ am_m h3 0 3 = q ∧ am_m h3 0 4 = dq := fun r => ⟨(r.1.2.2.2 0 (by omega)).1.trans t0, ⟨((r.2 0 5 (by omega) (by omega)).trans (e0 _)).trans g.f5, ((r.2 0 6 (by omega) (by omega)).trans (e0 _)).trans g.f6, ((r.2 0 7 (by omega) (by omega)).trans (e0 _)).trans g.f7, ((r.2 0 8 (by omega) (by omega)).trans (e0 _)).trans g.f8⟩, ((r.2 0 3 (by omega) (by omega)).trans (e0 _)).trans g.f3, ((r.2 0 4 (by omega) (by omega)).trans (e0 _)).trans g.f4⟩
  generalize er : gAll (s_kd tp tl) 400 0 = r
  cases r with
  | inl pl =>
    intro hp h3 fq po3
    have r3 := r0.tr fq.rt
    obtain ⟨m0, ⟨m5, m6, m7, m8⟩, m3, m4⟩ := mv r3
    have tx3 := r3.tx tx1
    have e13 : am_m h3 0 1 = 0 := (fq.2 0 1 (by decide) (by decide) (by decide) (by omega) (by omega) (by omega) (by have := txt.n; omega)).trans e01
    refine okx ⟨fun _ => ⟨fun y => absurd y (by decide), fun _ => ⟨m0, fun _ => ⟨m0, ?_, ?_, ?_⟩, fun y => absurd rfl y⟩⟩, fun y => absurd rfl y⟩
    · rw [m6]
      exact tx3.t27
    · rw [m5]
      exact tx3.t22
    · rw [m5, m6, po3]
      exact tell h3 1 pl _ r3 e13 (Or.inl ⟨er, rfl⟩) hp (fun z => rfl)
  | inr r =>
    obtain ⟨E, Bs, R⟩ := r
    intro h3' h3 xl
    have xl1 : XL (am_w (am_w (am_w (am_w h1 0 1 0) 27 4 dq) dq 5 0) 27 2 0) h3' dq (s_kd tp tl) N h3 E Bs R := xl
    obtain ⟨xg, fq, xb⟩ := xl1
    obtain ⟨gE, gR, gB, gN, gT⟩ := g_list er
    have fq3 := fq.tr xg.f
    have r3 := r0.tr fq3.rt
    obtain ⟨m0, ⟨m5, m6, m7, m8⟩, m3, m4⟩ := mv r3
    have tx3 := r3.tx tx1
    have e13 : am_m h3 0 1 = 0 := (fq3.2 0 1 (by decide) (by decide) (by decide) (by omega) (by omega) (by omega) (by have := txt.n; omega)).trans e01
    have EN := xg.iN
    have hEN := en.1
    have lS := xg.bd
    have rf : ∀ j, j < E → RF (s_kd tp tl) (roF R) (s_va tp tl) j := fun j hj => (gR j hj).rf hr tb.1 en (by omega)
    have gk : GK h3 dq (roF R) (s_va tp tl) E := by
      refine ⟨tx3.t30, tx3.d1, tx3.d2, tx3.d3, tx3.d4, tx3.d5, tx3.d6, tx3.t22, tx3.a1, tx3.t24.1, tx3.t24.2, tx3.t27, tx3.b0, tx3.t28.1, tx3.t28.2, tx3.b1, tx3.t29.1, tx3.t29.2, xg.po, tx3.t31.1, tx3.t31.2, tx3.t32.1, tx3.t32.2, tx3.t33.1, tx3.t33.2, tx3.t34.1, tx3.t34.2, tx3.p, tx3.qd, tx3.n, by omega, fun k hk => (r3.2 24 _ (by omega) (by omega)).trans (to k (by omega)).2.1, fun k hk => ?_⟩
      have := xg.ro.get (z := 0) k (by rw [xg.rl]; exact hk)
      rw [show (0 : Int) + (k : Int) = (k : Int) by omega] at this
      exact this
    refine okx ⟨fun y => absurd y (by decide), fun _ => ⟨m0, m0, ?_, ?_⟩⟩
    · rw [m7]
      exact tx3.t30
    rw [m7, m4]
    have ha : ∀ s ∈ bss Bs, 0 ≤ s.2 ∧ s.2 < (E : Int) := fun s hs => by
      obtain ⟨ne, y⟩ := bss_mem hs
      have e0' := nlast gN ne
      rcases y with y | ⟨b, hb, o, ho, y⟩
      · omega
      · obtain ⟨a1, a2, -⟩ := (gT b hb).2 o ho
        rcases y with y | y <;> omega
    have rr := run_rg (ro := roF R) (va := s_va tp tl) E 0 f00
    refine c14 (S := bss Bs) (by omega) gk rf xg.cn (by omega) (xg.st.map Prod.snd) ha (fun z h4 f4 po4 => okx ⟨fun y => absurd y z, fun _ => ?_⟩) (fun z h4 h5 ck fr5 ee5 r9 => okx ⟨fun _ => ?_, fun y => absurd rfl y⟩)
    · have r4 := r3.tr f4.rt
      obtain ⟨m0, ⟨m5, m6, m7, m8⟩, m3, m4⟩ := mv r4
      have tx4 := r4.tx tx1
      have e14 : am_m h4 0 1 = 0 := (f4.2 0 1 (by decide) (by decide) (by omega) (by omega) (by have := tx3.n; omega)).trans e13
      refine ⟨m0, fun y => absurd y (by omega), fun _ => ⟨m0, ?_, ?_, ?_⟩⟩
      · rw [m7]
        exact tx4.t30
      · rw [m5]
        exact tx4.t22
      · rw [m5, m7, po4]
        exact tell h4 _ _ _ r4 e14 (Or.inr ⟨E, Bs, R, er, rfl, z, rfl⟩) (by omega) (fun z => rfl)
    · -- all told
      have fi := run_fi rf E 0 f00 (Nat.zero_add _) FI.i0 z
      have r5 : RT h1 h5 dq := (r3.tr ck.fk.rt).tr ⟨fr5.bs, fun b i hb y => ee5 b i (by omega)⟩
      obtain ⟨m0, ⟨m5, m6, m7, m8⟩, m3, m4⟩ := mv r5
      have tx5 := r5.tx tx1
      have e15 : am_m h5 0 1 = 0 := ((ee5 0 1 (by omega)).trans (ck.fk.2 0 1 (by decide) (by decide) (by omega) (by omega) (by have := tx3.n; omega))).trans e13
      obtain ⟨cp, cb⟩ := ck.plan fi gB fr5 ee5
      have ct := ck.tests (h0 := h3') fi fr5 ee5 xg.cn (xg.st.map Prod.fst) xb (fun i => xg.f.2 29 i (by omega) (by omega) (by omega) (by omega) (by omega) (by have := xg.g.n; omega)) r9 gN gT (by omega)
      have hpi := fi.pi gB
      have hpb := fi.pb gB
      have kg := kG E Bs R er z
      generalize (run (roF R) (s_va tp tl) E 0 f00).2.2 = f at fi ck r9 cp cb ct hpi hpb kg
      obtain ⟨hA, hB, fA, fB, fC⟩ := g.split f1 r5
      have cc5 := ((g.c.fr fA (by omega) (by omega)).fr fB (by omega) (by omega)).fr fC (by omega) (by omega)
      obtain ⟨q2, x44⟩ := g.tr
      have p44 : P3 h5 44 q2 := ((x44.fr fA (by omega)).fr fB (by omega)).fr fC (by omega)
      have lo5 : am_m h5 35 2 = -1 := ((r5.2 35 2 (by omega) (by omega)).trans (f1.2.2.2.2 35 (by omega) (by omega) 2)).trans g.lo
      have w3 : am_m (am_w h5 0 2 (-1)) 0 3 = q := by
        rw [am_m_w, if_neg (by decide)]
        exact m3
      have w4 : am_m (am_w h5 0 2 (-1)) 0 4 = dq := by
        rw [am_m_w, if_neg (by decide)]
        exact m4
      rw [w3, w4]
      have fw : Fr 0 1 h5 (am_w (am_w (am_w h5 0 2 (-1)) 0 3 dq) 0 4 q) := ((Fr.rf.w (by decide) (by decide)).w (by decide) (by decide)).w (by decide) (by decide)
      have v1 : am_m (am_w (am_w (am_w h5 0 2 (-1)) 0 3 dq) 0 4 q) 0 1 = 0 := by
        rw [am_m_w, if_neg (by decide), am_m_w, if_neg (by decide), am_m_w, if_neg (by decide)]
        exact e15
      have v2 : am_m (am_w (am_w (am_w h5 0 2 (-1)) 0 3 dq) 0 4 q) 0 2 = -1 := by
        rw [am_m_w, if_neg (by decide), am_m_w, if_neg (by decide), am_m_w, if_pos ⟨rfl, rfl⟩]
      have v3 : am_m (am_w (am_w (am_w h5 0 2 (-1)) 0 3 dq) 0 4 q) 0 3 = dq := by
        rw [am_m_w, if_neg (by decide), am_m_w, if_pos ⟨rfl, rfl⟩]
      have v4 : am_m (am_w (am_w (am_w h5 0 2 (-1)) 0 3 dq) 0 4 q) 0 4 = q := by
        rw [am_m_w, if_pos ⟨rfl, rfl⟩]
      have v0 : ∀ i, ¬ (i = 1 ∨ i = 2 ∨ i = 3 ∨ i = 4) → am_m (am_w (am_w (am_w h5 0 2 (-1)) 0 3 dq) 0 4 q) 0 i = am_m h 0 i := fun i y => by
        rw [am_m_w, if_neg (by omega), am_m_w, if_neg (by omega), am_m_w, if_neg (by omega)]
        exact (r5.2 0 i (by omega) (by omega)).trans (e0 i)
      have t08 : am_t (am_w (am_w (am_w h5 0 2 (-1)) 0 3 dq) 0 4 q) 35 = 3 := cc5.P.t
      rw [v3, v0 8 (by decide), g.f8]
      have gq := g.qd
      refine ⟨m0, m0, by omega, m0, m0, m0, m0, m0, t08, ?_⟩
      have cc8 := cc5.fr fw (by omega) (by omega)
      have lo8 : am_m (am_w (am_w (am_w h5 0 2 (-1)) 0 3 dq) 0 4 q) 35 2 = -1 := (fw.2.2.2.2 35 (by have := tx5.n; omega) (by omega) 2).trans lo5
      have cp8 := cp.fr fw (by omega)
      have cb8 := cb.fr cp.1 fw (by omega)
      have ct8 := ct.fr cp.1 fw (by omega)
      have tx8 := tx5.fr fw (by omega)
      have p48 := p44.fr fw (by omega)
      have n8 := tx8.n
      generalize am_w (am_w (am_w h5 0 2 (-1)) 0 3 dq) 0 4 q = h8 at fw v0 v1 v2 v3 v4 cc8 lo8 cp8 cb8 ct8 tx8 p48 n8 ⊢
      refine c47 (y := ss 0 0) (lo := -1) cc8.P cp8 cb8 hpi hpb cc8.yr g.c.S.yr lo8 (by omega) (fun h9 f9 cc9 lo9 => okx ?_)
      have e9 : ∀ i, am_m h9 0 i = am_m h8 0 i := fun i => f9.2.2.2.2 0 (by omega) (by omega) i
      have tx9 := tx8.fr f9 (by omega)
      have n9 := tx9.n
      have f01 : Fr 0 53 h h1 := f1.wide (by decide) (by decide)
      have f15 : Fr 0 53 h1 h5 := ⟨r5.1.1, r5.1.2.1, r5.1.2.2.1, r5.1.2.2.2, fun b hb y i => r5.2 b i hb (by omega)⟩
      have fall := ((f01.tr f15).tr (fw.wide (by decide) (by decide))).tr (f9.wide (by decide) (by decide))
      have bs := fall.bs
      have yr := g.c.S.yr
      exact kg h9 fall ⟨(bs.2.2.2 0 (by omega)).1.trans g.t0, ((e9 _).trans (v0 _ (by decide))).trans g.f0, (e9 _).trans v1, (e9 _).trans v2, (e9 _).trans v3, (e9 _).trans v4, ((e9 _).trans (v0 _ (by decide))).trans g.f5, ((e9 _).trans (v0 _ (by decide))).trans g.f6, ((e9 _).trans (v0 _ (by decide))).trans g.f7, ((e9 _).trans (v0 _ (by decide))).trans g.f8, ((e9 _).trans (v0 _ (by decide))).trans g.f9, (bs.2.2.2 1 (by omega)).1.trans g.t1, (bs.2.2.2 1 (by omega)).2.trans g.l1, cc9, lo9, ct8.fr cp8.1 f9 (by omega), ⟨q2, p48.fr f9 (by omega)⟩, by omega, fun p _ _ => by show (-1 : Int) < ss 0 0; omega, fun p _ _ y => absurd (show (0 : Int) = 1 from y) (by decide), by omega, ⟨Int.le_refl _, by decide⟩, fun i h0 h1 => absurd h1 (by omega)⟩ (tx9.sw (cc8.Q.fr f9 (by omega)) (by omega))
end
