/-! ===== the reference's teach ===== -/
section
variable {d D : Nat} {h : AH} {pp ss : TT} {tt : Int → List Op} {tp : Int → Int} {tl er q : Int} {K : AK}
theorem c201 (hD : 70 ≤ D) (g : GM h pp ss tt tl tp er q) (hr : ∀ i, 0 ≤ i → i < tl → 0 ≤ tp i ∧ tp i < 256) (hL : ∀ E Bs R, gAll (s_kd tp tl) 400 0 = .inr (E, Bs, R) → (run (roF R) (s_va tp tl) E 0 f00).1 = 0 → ∀ i, 0 ≤ i → i < (run (roF R) (s_va tp tl) E 0 f00).2.2 3 0 → ((ttF Bs (run (roF R) (s_va tp tl) E 0 f00).2.2 i).length : Int) ≤ 400) (kE : ∀ e pl, TE tp tl e pl → ∀ h2, Fr 53 34 h h2 → GM h2 pp ss tt 0 tp (s_st tp tl pl) q → K 0 e h2) (kG : ∀ E Bs R, gAll (s_kd tp tl) 400 0 = .inr (E, Bs, R) → (run (roF R) (s_va tp tl) E 0 f00).1 = 0 → ∀ h2 q2, Fr 53 34 h h2 → GM h2 (run (roF R) (s_va tp tl) E 0 f00).2.2 (s_bg (run (roF R) (s_va tp tl) E 0 f00).2.2 (ss 0 0)) (ttF Bs (run (roF R) (s_va tp tl) E 0 f00).2.2) 0 tp (-1) q2 → K 0 0 h2) : am_call D 201 [(2, 53)] h K := by
  obtain ⟨d, rfl⟩ : ∃ d, D = d + 6 + 1 + 1 := ⟨D - 8, by omega⟩
  have hn := g.n
  have hq := g.qd
  have tb := g.tb
  have M := g.c.M
  refine v201 ⟨M.t, M.t, ⟨M.t, by decide, by decide⟩, ?_⟩
  have g1 : GM (am_w (am_w h 53 0 0) 53 3 (-1)) pp ss tt tl tp (-1) q := by
    have gt : GM (am_w h 53 0 0) pp ss tt tl tp er q := g.th
    obtain ⟨a1, a2, a3, a4, a5, a6, a7, a8, a9, a10, a11, a12⟩ := gt
    have e : ∀ b i, ¬ (b = 53 ∧ i = 3) → am_m (am_w (am_w h 53 0 0) 53 3 (-1)) b i = am_m (am_w h 53 0 0) b i := fun b i z => by rw [am_m_w, if_neg z]
    have f1 : Fr 53 1 (am_w h 53 0 0) (am_w (am_w h 53 0 0) 53 3 (-1)) := Fr.rf.w (by decide) (by decide)
    obtain ⟨x1, x2, x3, x4, x5, x6, x7, x8⟩ := a1
    exact ⟨⟨x1.w (Or.inr (by decide)), x2.fr f1 (by omega), x3.fr f1 (by omega), x4.fr x2 f1 (by omega), x5, x6, (e _ _ (by omega)).trans x7, x8⟩, (e _ _ (by omega)).trans a2, a3.fr x3.1 f1 (by omega), a4.fr f1 (by omega), (e _ _ (by omega)).trans a5, by rw [am_m_w, if_pos ⟨rfl, rfl⟩], a7, a8, a9, a10, a11, fun i h0 h1 => (e _ _ (by omega)).trans (a12 i h0 h1)⟩
  have r1 : RX h (am_w (am_w h 53 0 0) 53 3 (-1)) := (RX.rf.w (by omega)).w (by omega)
  generalize am_w (am_w h 53 0 0) 53 3 (-1) = h1 at g1 r1 ⊢
  have hn1 := r1.1.1
  have M1 := g1.c.M
  -- a new plan
  refine v198 ⟨⟨by decide, by decide⟩, ⟨by omega, by decide, by decide⟩, c127 rfl (by omega) (fun h2 np => okx ?_)⟩
  obtain ⟨fr2, p2, n2, zi2, b82, zr2⟩ := np
  have hap : 88 ≤ am_n h1 := by omega
  generalize ea : am_n h1 = a at fr2 p2 n2 zi2 b82 zr2 hap ⊢
  have g2 : GM h2 pp ss tt tl tp (-1) q := g1.fr fr2 (by decide)
  have r2 : RX h h2 := r1.st fr2.bs (fun c j hc _ _ => fr2.2.2.2.2 c (by omega) (by omega) j)
  have g3 : GM (am_w h2 53 13 a) pp ss tt tl tp (-1) q := by
    have e : ∀ b i, ¬ (b = 53 ∧ i = 13) → am_m (am_w h2 53 13 a) b i = am_m h2 b i := fun b i z => by rw [am_m_w, if_neg z]
    exact g2.uf (Fr.rf.w (by decide) (by decide)) (g2.c.M.w (Or.inr (by decide))) ((e _ _ (by omega)).trans g2.tl) ((e _ _ (by omega)).trans g2.er) ((e _ _ (by omega)).trans g2.c.bud) tb (fun i h0 h1 => (e _ _ (by omega)).trans (g2.tm i h0 h1))
  have r3 : RX h (am_w h2 53 13 a) := r2.w (by omega)
  have e13 : am_m (am_w h2 53 13 a) 53 13 = a := by rw [am_m_w, if_pos ⟨rfl, rfl⟩]
  have pn : ∀ b i, b ≠ 53 → am_m (am_w h2 53 13 a) b i = am_m h2 b i := fun b i z => by rw [am_m_w, if_neg (fun y => z y.1)]
  have n3 : am_n (am_w h2 53 13 a) = a + 11 := n2
  have p3 : P7 (am_w h2 53 13 a) a := p2.w (Or.inl (by omega))
  refine ⟨g2.c.M.t, g2.c.M.t, ?_⟩
  have z3 : (∀ i, ZI i → am_m (am_w h2 53 13 a) a i = 0) ∧ am_m (am_w h2 53 13 a) a 8 = 100 ∧ ∀ b i, a + 1 ≤ b → b ≤ a + 10 → am_m (am_w h2 53 13 a) b i = 0 := ⟨fun i hi => (pn _ _ (by omega)).trans (zi2 i hi), (pn _ _ (by omega)).trans b82, fun b i z1 z2 => (pn _ _ (by omega)).trans (zr2 b i z1 z2)⟩
  generalize am_w h2 53 13 a = h3 at g3 r3 e13 n3 p3 z3 ⊢
  -- the tape is cut
  refine c165 g3 hr (fun h4 N f4 g4 en rn => okx ?_)
  have r4 : RX h h4 := r3.st f4.bs (fun c j hc z1 z2 => f4.2.2.2.2 c (by omega) (by omega) j)
  have c4 : ∀ b i, 60 ≤ b → b < a + 11 → am_m h4 b i = am_m h3 b i := fun b i z1 z2 => f4.2.2.2.2 b (by omega) (by omega) i
  have n4 : a + 11 ≤ am_n h4 := by have := f4.1; omega
  have p4 : P7 h4 a := p3.cg f4.bs (fun i _ => c4 a i (by omega) (by omega))
  have e134 : am_m h4 53 13 = a := (f4.2.2.2.2 53 (by omega) (by omega) 13).trans e13
  have M4 := g4.c.M
  refine ⟨M4.t, M4.t, M4.t, ?_⟩
  have w5 : ∀ b i, ¬ (b = 53 ∧ (i = 10 ∨ i = 11)) → am_m (am_w (am_w h4 53 10 0) 53 11 0) b i = am_m h4 b i := fun b i z => by rw [am_m_w, if_neg (by omega), am_m_w, if_neg (by omega)]
  have r5 : RX h (am_w (am_w h4 53 10 0) 53 11 0) := (r4.w (by omega)).w (by omega)
  have p5 : P7 (am_w (am_w h4 53 10 0) 53 11 0) a := (p4.w (Or.inl (by omega))).w (Or.inl (by omega))
  have e1010 : am_m (am_w (am_w h4 53 10 0) 53 11 0) 53 10 = 0 ∧ am_m (am_w (am_w h4 53 10 0) 53 11 0) 53 11 = 0 := by
    refine ⟨by rw [am_m_w, if_neg (by decide), am_m_w, if_pos ⟨rfl, rfl⟩], by rw [am_m_w, if_pos ⟨rfl, rfl⟩]⟩
  have bs5 : BS h4 (am_w (am_w h4 53 10 0) 53 11 0) := ⟨Int.le_refl _, rfl, fun _ => rfl, fun _ _ => ⟨rfl, rfl⟩⟩
  have tg5 : ∀ b, am_t (am_w (am_w h4 53 10 0) 53 11 0) b = am_t h4 b ∧ am_l (am_w (am_w h4 53 10 0) 53 11 0) b = am_l h4 b := fun b => ⟨rfl, rfl⟩
  have n5 : am_n (am_w (am_w h4 53 10 0) 53 11 0) = am_n h4 := rfl
  generalize am_w (am_w h4 53 10 0) 53 11 0 = h5 at w5 r5 p5 e1010 bs5 tg5 n5 ⊢
  have e135 : am_m h5 53 13 = a := (w5 _ _ (by omega)).trans e134
  have z5 : ∀ i, ZI i → am_m h5 a i = 0 := fun i hi => ((w5 _ _ (by omega)).trans (c4 a i (by omega) (by omega))).trans (z3.1 i hi)
  have gr : GR h5 a (s_kd tp tl) (s_va tp tl) N := by
    refine ⟨(tg5 53).1.trans M4.t, (w5 _ _ (by omega)).trans M4.f5, (tg5 55).1.trans M4.t2, (tg5 55).2.trans M4.l2, (w5 _ _ (by omega)).trans M4.f8, (tg5 58).1.trans M4.t5, (tg5 58).2.trans M4.l5, e135, p5, hap, fun j hj => (w5 _ _ (by omega)).trans (rn j (by omega)).1, fun j hj => kd_kv hr tb.1 en hj, en.1, en.2.1, en.2.2, fun d h2 j K fq hj kj k => ?_⟩
    have gq := gq_of (ro := fun _ => 0) (E := N) g4 rn en hr (h := h5) (a := a) (fun b _ => tg5 b) (fun j hj => w5 _ _ (by omega)) (fun b i hb => w5 _ _ (by omega)) e135 p5 hap (Nat.le_refl _) (fun k hk => (w5 _ _ (by omega)).trans ((rn k (by omega)).2.2.1.trans rfl))
    have jN : j < N := by
      by_cases y : j = N
      · rw [y] at kj
        have := en.2.1
        omega
      · omega
    exact c188 gq ⟨fun b hb => fq.1.2.2.2 b (by omega), fun i hi => fq.2 53 i (by omega) (by omega) (by omega) (by omega) (by omega) (by omega) (by omega) (by omega), fun b i hb => fq.2 b i (by omega) (by omega) (by omega) (by omega) (by omega) (by omega) (by omega) (by omega)⟩ jN kj k
  have xr : XR h5 h5 a (s_kd tp tl) (s_va tp tl) N h5 0 [] [] := by
    refine ⟨⟨gr, FM.rf, e1010.1, e1010.2, z5 15 (by unfold ZI; decide), trivial, z5 17 (by unfold ZI; decide), trivial, trivial, rfl, Nat.zero_le _, fun j _ hj => (w5 _ _ (by omega)).trans (rn j (by omega)).2.2.1⟩, ⟨Nat.le_refl _, Nat.le_refl _⟩, FQM.rf, z5 10 (by unfold ZI; decide), trivial, Nat.le_refl _⟩
  -- an error at a token: its place is told
  have tell : ∀ (h6 : AH) (e : Int) (pl : Nat), RX h h6 → TE tp tl e pl → am_m h6 56 (pl : Int) = s_st tp tl pl → K 0 e (am_w (am_w h6 53 3 (am_m h6 56 (pl : Int))) 53 2 0) := by
    intro h6 e pl r te e6
    rw [e6]
    have r7 : RX h (am_w (am_w h6 53 3 (s_st tp tl pl)) 53 2 0) := (r.w (by omega)).w (by omega)
    refine kE e pl te _ (r7.fr.wide (by decide) (by decide)) (g.keep r7 (by rw [am_m_w, if_pos ⟨rfl, rfl⟩]) ?_)
    rw [am_m_w, if_neg (by decide), am_m_w, if_pos ⟨rfl, rfl⟩]
  have rq : ∀ {h6 : AH}, FQM h5 h6 a → RX h h6 := fun fq => r5.st fq.1 (fun c j hc z1 z2 => fq.2 c j (by have := r5.1.1; omega) (by omega) (by omega) (by omega) (by omega) (by omega) (by omega) (by omega))
  have tq : ∀ {h6 : AH}, FQM h5 h6 a → am_t h6 53 = 9 ∧ (am_m h6 53 6 = 56 ∧ am_t h6 56 = 20 ∧ am_l h6 56 = 401) ∧ am_m h6 53 13 = a ∧ ∀ i, am_m h6 56 i = am_m h4 56 i := fun fq => ⟨((fq.1.2.2.2 53 (by omega)).1.trans (tg5 53).1).trans M4.t, ⟨((fq.2 53 6 (by omega) (by omega) (by omega) (by omega) (by omega) (by omega) (by omega) (by omega)).trans (w5 _ _ (by omega))).trans M4.f6, ((fq.1.2.2.2 56 (by omega)).1.trans (tg5 56).1).trans M4.t3, ((fq.1.2.2.2 56 (by omega)).2.trans (tg5 56).2).trans M4.l3⟩, (fq.2 53 13 (by omega) (by omega) (by omega) (by omega) (by omega) (by omega) (by omega) (by omega)).trans e135, fun i => (fq.2 56 i (by omega) (by omega) (by omega) (by omega) (by omega) (by omega) (by omega) (by omega)).trans (w5 _ _ (by omega))⟩
  have N4 := en.1
  refine c172 (by omega) xr ?_
  generalize er : gAll (s_kd tp tl) 400 0 = r
  cases r with
  | inl pl =>
    intro hp h6 fq po
    obtain ⟨t6, ⟨m6, t56, l56⟩, -, e56⟩ := tq fq
    refine okx ⟨fun _ => ?_, fun y => absurd rfl y⟩
    rw [m6, po, t56, l56]
    refine ⟨t6, t6, ⟨rfl, by omega, by omega⟩, t6, okx ⟨t6, fun _ => ?_, fun y => absurd (by decide) y⟩⟩
    exact tell h6 1 pl (rq fq) (Or.inl ⟨er, rfl⟩) ((e56 _).trans (rn pl (by omega)).2.1)
  | inr r =>
    obtain ⟨E, Bs, R⟩ := r
    sorry
end
