/-! ===== years ===== -/
noncomputable def s_b2 (pp : TT) (tt : Int → List Op) (lo : Int) : Nat → TT → TT
  | 0, ss => ss
  | n + 1, ss => if s_nx pp ss tt lo = -1 then ss else s_b2 pp tt lo n (s_buy pp ss (s_nx pp ss tt lo))
noncomputable def s_pot (ss : TT) (p : Int) : TT := s_bld (su ss 2 0 (ss 2 0 - ss 6 p)) p
noncomputable def s_b3 (pp : TT) (tt : Int → List Op) (lo : Int) : Nat → TT → TT
  | 0, ss => ss
  | n + 1, ss => if s_px pp ss tt lo = -1 then ss else s_b3 pp tt lo n (s_pot ss (s_px pp ss tt lo))
def s_g1 (x g : Int) : Int := min 9999 (w32 (x + w32 ((w32 (x * g)).tdiv 100)))
def s_gr (pp ss : TT) : Nat → TT
  | 0 => ss
  | n + 1 => if s_gr pp ss n 7 (n : Int) = -1 then su (s_gr pp ss n) 6 (n : Int) (s_g1 (s_gr pp ss n 6 (n : Int)) (pp 6 (n : Int))) else s_gr pp ss n
theorem s_gr_succ {pp ss : TT} {n : Nat} : s_gr pp ss (n + 1) = if s_gr pp ss n 7 (n : Int) = -1 then su (s_gr pp ss n) 6 (n : Int) (s_g1 (s_gr pp ss n 6 (n : Int)) (pp 6 (n : Int))) else s_gr pp ss n := rfl
noncomputable def s_p1 (pp : TT) (tt : Int → List Op) (lo : Int) (ss : TT) : TT := s_gr pp (s_b3 pp tt lo 12 (s_b2 pp tt lo 12 (s_col pp ss))) (pp 1 0).toNat
noncomputable def s_year (pp : TT) (tt : Int → List Op) (lo : Int) (ss : TT) : TT := su (s_p1 pp tt lo ss) 0 0 (ss 0 0 + 1)
noncomputable def s_ys (pp : TT) (tt : Int → List Op) (lo : Int) : Nat → TT → TT
  | 0, ss => ss
  | n + 1, ss => s_ys pp tt lo n (s_year pp tt lo ss)
theorem nx_rg {pp ss : TT} {tt : Int → List Op} {lo : Int} (hI : PI pp) : s_nx pp ss tt lo = -1 ∨ (0 ≤ s_nx pp ss tt lo ∧ s_nx pp ss tt lo < pp 1 0 ∧ ss 7 (s_nx pp ss tt lo) = -1 ∧ s_sh pp ss (s_nx pp ss tt lo) ≠ -1) := by
  have np := hI.np
  rcases nxt_rg (pp := pp) (ss := ss) (tt := tt) (lo := lo) (pp 1 0).toNat with z | z
  · exact Or.inl z
  · have z3 := z.2.2.1
    unfold s_rm at z3
    simp only [Bool.and_eq_true, decide_eq_true_eq] at z3
    exact Or.inr ⟨z.1, by unfold s_nx; omega, z3.1, z.2.2.2.2⟩
theorem px_rg {pp ss : TT} {tt : Int → List Op} {lo : Int} (hI : PI pp) : s_px pp ss tt lo = -1 ∨ (0 ≤ s_px pp ss tt lo ∧ s_px pp ss tt lo < pp 1 0 ∧ ss 7 (s_px pp ss tt lo) = -1 ∧ ss 6 (s_px pp ss tt lo) ≤ ss 2 0) := by
  have np := hI.np
  rcases pxt_rg (pp := pp) (ss := ss) (tt := tt) (lo := lo) (pp 1 0).toNat with z | z
  · exact Or.inl z
  · have z3 := z.2.2.1
    unfold s_rm at z3
    simp only [Bool.and_eq_true, decide_eq_true_eq] at z3
    exact Or.inr ⟨z.1, by unfold s_px; omega, z3.1, z.2.2.2⟩
theorem bc_congr {pp ss s2 : TT} (e7 : ∀ p, s2 7 p = ss 7 p) : s_bc pp s2 = s_bc pp ss := by
  unfold s_bc
  refine sm_congr (fun i _ => ?_)
  unfold f_bc
  rw [e7]
theorem bc_bd {pp ss : TT} (hI : PI pp) : 0 ≤ s_bc pp ss ∧ s_bc pp ss ≤ pp 1 0 := by
  have np := hI.np
  have := sm_bd (f := f_bc ss) (B := 1) (n := (pp 1 0).toNat) (fun j hj => by
    unfold f_bc
    split <;> omega)
  unfold s_bc
  omega
theorem bc_bld {pp ss : TT} {p : Int} (hI : PI pp) (hS : SI pp ss) (h0 : 0 ≤ p) (h1 : p < pp 1 0) (hz : ss 7 p = -1) : s_bc pp (s_bld ss p) = s_bc pp ss + 1 := by
  have yr := hS.yr
  have np := hI.np
  unfold s_bc
  rw [sm_pt (f := f_bc ss) (g := f_bc (s_bld ss p)) h0 (fun i hi => by
    unfold f_bc
    rw [s_bld_ne (fun z => hi z.2) (by omega)])]
  rw [if_pos (by omega)]
  unfold f_bc
  rw [s_bld_7, hz, if_pos rfl, if_neg (by omega)]
  omega
theorem SI.bf {pp ss : TT} {p : Int} (hI : PI pp) (hS : SI pp ss) (h0 : 0 ≤ p) (h1 : p < pp 1 0) (hs : s_sh pp ss p ≠ -1) (bk : Int) : ∀ n : Nat, n ≤ (pp 2 0).toNat → SI pp (s_bf ss p (s_sh pp ss p) bk n).2
  | 0, _ => hS
  | n + 1, hn => by
    have nv := hI.nv
    have ih := SI.bf hI hS h0 h1 hs bk n (by omega)
    have sb := sh_bd hI hS h0 h1 hs
    have bp := ih.purse (i := (n : Int)) (by omega) (by omega)
    rw [s_bf_succ]
    generalize s_bf ss p (s_sh pp ss p) bk n = r at ih bp ⊢
    generalize s_sh pp ss p = sh at sb ⊢
    unfold s_b1
    split
    · exact ih
    · split
      · exact (ih.u4 ⟨by omega, by omega⟩).u5
      · exact (ih.u4 ⟨by omega, by omega⟩).u5
theorem SI.bld {pp ss : TT} {p : Int} (hS : SI pp ss) : SI pp (s_bld ss p) := by
  have yr := hS.yr
  exact (hS.u7 ⟨by omega, by omega⟩).u3
theorem bc_buy {pp ss : TT} {p : Int} (hI : PI pp) (hS : SI pp ss) (h0 : 0 ≤ p) (h1 : p < pp 1 0) (hz : ss 7 p = -1) (hs : s_sh pp ss p ≠ -1) : s_bc pp (s_buy pp ss p) = s_bc pp ss + 1 := by
  have e7 : ∀ o, su (s_bf ss p (s_sh pp ss p) (s_tg pp ss p (s_sh pp ss p) - ss 6 p) (pp 2 0).toNat).2 8 p 1 7 o = ss 7 o := fun o => (su_ne (by omega)).trans (s_bf_ne (by decide) (by decide) _)
  have hs2 := (SI.bf hI hS h0 h1 hs (s_tg pp ss p (s_sh pp ss p) - ss 6 p) _ (Nat.le_refl _)).u8 (i := p) (v := 1) (Or.inr rfl)
  unfold s_buy
  rw [bc_bld hI hs2 h0 h1 ((e7 p).trans hz), bc_congr e7]
theorem bc_pot {pp ss : TT} {p : Int} (hI : PI pp) (hS : SI pp ss) (h0 : 0 ≤ p) (h1 : p < pp 1 0) (hz : ss 7 p = -1) (hc : ss 6 p ≤ ss 2 0) : s_bc pp (s_pot ss p) = s_bc pp ss + 1 := by
  have e7 : ∀ o, su ss 2 0 (ss 2 0 - ss 6 p) 7 o = ss 7 o := fun o => su_ne (by omega)
  have cb := hS.cost h0 h1
  have po := hS.pot
  unfold s_pot
  rw [bc_bld hI (hS.u2 ⟨by omega, by omega⟩) h0 h1 ((e7 p).trans hz), bc_congr e7]
theorem s_b2_0 {pp : TT} {tt : Int → List Op} {lo : Int} (hI : PI pp) : ∀ n ss, s_b2 pp tt lo n ss 0 0 = ss 0 0
  | 0, _ => rfl
  | n + 1, ss => by
    unfold s_b2
    split
    · rfl
    · rw [s_b2_0 hI n]
      exact s_buy_ne (Or.inl rfl)
theorem s_b3_0 {pp : TT} {tt : Int → List Op} {lo : Int} : ∀ n ss, s_b3 pp tt lo n ss 0 0 = ss 0 0
  | 0, _ => rfl
  | n + 1, ss => by
    unfold s_b3
    split
    · rfl
    · rw [s_b3_0 n]
      exact (s_bld_ne (by omega) (by omega)).trans (su_ne (by omega))
theorem s_gr_ne {pp ss : TT} {k : Nat} {i : Int} (hk : k ≠ 6) : ∀ n : Nat, s_gr pp ss n k i = ss k i
  | 0 => rfl
  | n + 1 => by
    rw [s_gr_succ]
    split
    · exact (su_ne (fun z => hk z.1)).trans (s_gr_ne hk n)
    · exact s_gr_ne hk n
theorem s_p1_0 {pp ss : TT} {tt : Int → List Op} {lo : Int} (hI : PI pp) : s_p1 pp tt lo ss 0 0 = ss 0 0 := by
  unfold s_p1
  rw [s_gr_ne (by decide), s_b3_0, s_b2_0 hI, s_col_ne (by decide) (by decide)]
theorem s_year_0 {pp ss : TT} {tt : Int → List Op} {lo : Int} : s_year pp tt lo ss 0 0 = ss 0 0 + 1 := su_eq
theorem s_ys_0 {pp : TT} {tt : Int → List Op} {lo : Int} : ∀ (n : Nat) (ss : TT), s_ys pp tt lo n ss 0 0 = ss 0 0 + (n : Int)
  | 0, _ => by show _ = _ + 0; rw [Int.add_zero]; rfl
  | n + 1, ss => by
    show s_ys pp tt lo n (s_year pp tt lo ss) 0 0 = _
    rw [s_ys_0 n, s_year_0]
    omega
theorem g1_bd {x g : Int} (h0 : 1 ≤ x) (h1 : x ≤ 9999) (h2 : 0 ≤ g) (h3 : g ≤ 50) : 1 ≤ s_g1 x g ∧ s_g1 x g ≤ 9999 := by
  have m0 : 0 ≤ x * g := Int.mul_nonneg (by omega) h2
  have m1 : x * g ≤ 9999 * 50 := Int.mul_le_mul h1 h3 h2 (by decide)
  have e : w32 (x * g) = x * g := w32_id (by omega) (by omega)
  unfold s_g1
  rw [e, Int.tdiv_eq_ediv_of_nonneg m0]
  generalize x * g = y at m0 m1
  rw [w32_id (x := y / 100) (by omega) (by omega), w32_id (by omega) (by omega)]
  omega
theorem c68 {d : Nat} {h : AH} {a q lo : Int} {pp ss : TT} {tt : Int → List Op} {K : AK} (c : CC h a q pp ss) (cy : CY h a pp ss lo) (ct : CT h q pp tt) (k : ∀ h2, Fr a 9 h h2 → CC h2 a q pp (s_b2 pp tt lo 12 ss) → CY h2 a pp (s_b2 pp tt lo 12 ss) lo → K 0 0 h2) : am_call (d + 7) 68 [(2, a)] h K := by
  refine v68 ?_
  have ap := c.ap
  suffices H : ∀ j : Nat, ∀ i : Nat, i + j = 12 → ∀ h1 s1 y2, Fr a 9 h h1 → CC h1 a q pp s1 → CY h1 a pp s1 lo → CT h1 q pp tt → s_b2 pp tt lo j s1 = s_b2 pp tt lo 12 ss → WP (d + 7) 68 (2, [(2, a), (0, (i : Int)), y2], [], h1, 0, 0) K from H 12 0 rfl h ss _ Fr.rf c cy ct rfl
  intro j
  induction j with
  | zero =>
    intro i hij h1 s1 y2 f c cy ct e
    refine v68_2 ?_
    simp only [c.P.t, c.P.f5, c.P.f3, c.P.t1, c.P.l1, c.P.f4, c.P.t2, c.P.l2, c.P.f8, c.P.t3, c.P.l3, c.P.f9, c.P.t4, c.P.l4, c.P.f10, c.P.t5, c.P.l5, c.P.f11, c.P.t6, c.P.l6, c.P.f12, c.P.t7, c.P.l7, c.P.f13, c.P.t8, c.P.l8, c.Q.t, c.Q.f6, c.Q.t1, c.Q.l1, c.Q.f7, c.Q.t2, c.Q.l2, c.Q.f8, c.Q.t3, c.Q.l3, c.Q.f9, c.Q.t4, c.Q.l4, c.Q.f10, c.Q.t5, c.Q.l5, c.Q.f11, c.Q.t6, c.Q.l6, c.Q.f12, c.Q.t7, c.Q.l7, c.Q.f13, c.Q.t8, c.Q.l8, c.Q.f14, c.Q.t9, c.Q.l9, c.nw, c.np, c.nv, c.nb, c.yr, c.bud, c.pot, c.pd, true_and]
    refine ⟨fun z => absurd z (by omega), fun _ => ?_⟩
    have k1 := k h1 f
    rw [← e] at k1
    exact k1 c cy
  | succ j ih =>
    intro i hij h1 s1 y2 f c cy ct e
    refine v68_2 ?_
    simp only [c.P.t, c.P.f5, c.P.f3, c.P.t1, c.P.l1, c.P.f4, c.P.t2, c.P.l2, c.P.f8, c.P.t3, c.P.l3, c.P.f9, c.P.t4, c.P.l4, c.P.f10, c.P.t5, c.P.l5, c.P.f11, c.P.t6, c.P.l6, c.P.f12, c.P.t7, c.P.l7, c.P.f13, c.P.t8, c.P.l8, c.Q.t, c.Q.f6, c.Q.t1, c.Q.l1, c.Q.f7, c.Q.t2, c.Q.l2, c.Q.f8, c.Q.t3, c.Q.l3, c.Q.f9, c.Q.t4, c.Q.l4, c.Q.f10, c.Q.t5, c.Q.l5, c.Q.f11, c.Q.t6, c.Q.l6, c.Q.f12, c.Q.t7, c.Q.l7, c.Q.f13, c.Q.t8, c.Q.l8, c.Q.f14, c.Q.t9, c.Q.l9, c.nw, c.np, c.nv, c.nb, c.yr, c.bud, c.pot, c.pd, true_and]
    refine ⟨fun _ => c69 c cy ct (fun h2 f2 c2 => ?_), fun z => absurd (show (i : Int) < 12 by omega) z⟩
    have rg := nx_rg (ss := s1) (tt := tt) (lo := lo) c.I
    refine ⟨fun z => ?_, fun z => ?_⟩
    · have e2 : s_b2 pp tt lo (j + 1) s1 = s1 := if_pos z
      have k1 := k h2 (f.tr f2.fr)
      rw [← e, e2] at k1
      exact k1 c2 (cy.fs f2)
    · have e2 : s_b2 pp tt lo (j + 1) s1 = s_b2 pp tt lo j (s_buy pp s1 (s_nx pp s1 tt lo)) := if_neg z
      obtain ⟨r0, r1, r7, rs⟩ := rg.resolve_left z
      refine ⟨c2.P.t, c62 c2 r0 r1 ⟨c2.P.t, c71 c2 (cy.fs f2) r0 r1 r7 rs (fun h3 f3 c3 cy3 => ?_)⟩⟩
      show WP _ _ _ _
      rw [w32_nat (by omega)]
      exact ih (i + 1) (by omega) h3 _ _ (f.tr (f2.fr.tr f3)) c3 cy3 ((ct.fr c.Q f2.fr ap).fr c2.Q f3 ap) (e2.symm.trans e)
theorem c73 {d : Nat} {h : AH} {a q lo : Int} {pp ss : TT} {tt : Int → List Op} {K : AK} (c : CC h a q pp ss) (cy : CY h a pp ss lo) (ct : CT h q pp tt) (k : ∀ h2, Fr a 9 h h2 → CC h2 a q pp (s_b3 pp tt lo 12 ss) → CY h2 a pp (s_b3 pp tt lo 12 ss) lo → K 0 0 h2) : am_call (d + 7) 73 [(2, a)] h K := by
  refine v73 ?_
  have ap := c.ap
  suffices H : ∀ j : Nat, ∀ i : Nat, i + j = 12 → ∀ h1 s1 y2, Fr a 9 h h1 → CC h1 a q pp s1 → CY h1 a pp s1 lo → CT h1 q pp tt → s_b3 pp tt lo j s1 = s_b3 pp tt lo 12 ss → WP (d + 7) 73 (2, [(2, a), (0, (i : Int)), y2], [], h1, 0, 0) K from H 12 0 rfl h ss _ Fr.rf c cy ct rfl
  intro j
  induction j with
  | zero =>
    intro i hij h1 s1 y2 f c cy ct e
    refine v73_2 ?_
    simp only [c.P.t, c.P.f5, c.P.f3, c.P.t1, c.P.l1, c.P.f4, c.P.t2, c.P.l2, c.P.f8, c.P.t3, c.P.l3, c.P.f9, c.P.t4, c.P.l4, c.P.f10, c.P.t5, c.P.l5, c.P.f11, c.P.t6, c.P.l6, c.P.f12, c.P.t7, c.P.l7, c.P.f13, c.P.t8, c.P.l8, c.Q.t, c.Q.f6, c.Q.t1, c.Q.l1, c.Q.f7, c.Q.t2, c.Q.l2, c.Q.f8, c.Q.t3, c.Q.l3, c.Q.f9, c.Q.t4, c.Q.l4, c.Q.f10, c.Q.t5, c.Q.l5, c.Q.f11, c.Q.t6, c.Q.l6, c.Q.f12, c.Q.t7, c.Q.l7, c.Q.f13, c.Q.t8, c.Q.l8, c.Q.f14, c.Q.t9, c.Q.l9, c.nw, c.np, c.nv, c.nb, c.yr, c.bud, c.pot, c.pd, true_and]
    refine ⟨fun z => absurd z (by omega), fun _ => ?_⟩
    have k1 := k h1 f
    rw [← e] at k1
    exact k1 c cy
  | succ j ih =>
    intro i hij h1 s1 y2 f c cy ct e
    refine v73_2 ?_
    simp only [c.P.t, c.P.f5, c.P.f3, c.P.t1, c.P.l1, c.P.f4, c.P.t2, c.P.l2, c.P.f8, c.P.t3, c.P.l3, c.P.f9, c.P.t4, c.P.l4, c.P.f10, c.P.t5, c.P.l5, c.P.f11, c.P.t6, c.P.l6, c.P.f12, c.P.t7, c.P.l7, c.P.f13, c.P.t8, c.P.l8, c.Q.t, c.Q.f6, c.Q.t1, c.Q.l1, c.Q.f7, c.Q.t2, c.Q.l2, c.Q.f8, c.Q.t3, c.Q.l3, c.Q.f9, c.Q.t4, c.Q.l4, c.Q.f10, c.Q.t5, c.Q.l5, c.Q.f11, c.Q.t6, c.Q.l6, c.Q.f12, c.Q.t7, c.Q.l7, c.Q.f13, c.Q.t8, c.Q.l8, c.Q.f14, c.Q.t9, c.Q.l9, c.nw, c.np, c.nv, c.nb, c.yr, c.bud, c.pot, c.pd, true_and]
    refine ⟨fun _ => c74 c cy ct (fun h2 f2 c2 => ?_), fun z => absurd (show (i : Int) < 12 by omega) z⟩
    have rg := px_rg (ss := s1) (tt := tt) (lo := lo) c.I
    show _ ∧ _
    refine ⟨fun z => ?_, fun z => ?_⟩
    · have e2 : s_b3 pp tt lo (j + 1) s1 = s1 := if_pos z
      have k1 := k h2 (f.tr f2.fr)
      rw [← e, e2] at k1
      exact k1 c2 (cy.fs f2)
    · have e2 : s_b3 pp tt lo (j + 1) s1 = s_b3 pp tt lo j (s_pot s1 (s_px pp s1 tt lo)) := if_neg z
      obtain ⟨r0, r1, r7, rc⟩ := rg.resolve_left z
      unfold s_pot at e2
      generalize s_px pp s1 tt lo = p at r0 r1 r7 rc e2 ⊢
      have np := c.I.np
      have ec := c2.cost r0 r1
      have cb := c2.S.cost r0 r1
      have po := c2.S.pot
      simp only [c2.P.t, c2.P.f5, c2.P.f3, c2.P.t1, c2.P.l1, c2.P.f4, c2.P.t2, c2.P.l2, c2.P.f8, c2.P.t3, c2.P.l3, c2.P.f9, c2.P.t4, c2.P.l4, c2.P.f10, c2.P.t5, c2.P.l5, c2.P.f11, c2.P.t6, c2.P.l6, c2.P.f12, c2.P.t7, c2.P.l7, c2.P.f13, c2.P.t8, c2.P.l8, c2.Q.t, c2.Q.f6, c2.Q.t1, c2.Q.l1, c2.Q.f7, c2.Q.t2, c2.Q.l2, c2.Q.f8, c2.Q.t3, c2.Q.l3, c2.Q.f9, c2.Q.t4, c2.Q.l4, c2.Q.f10, c2.Q.t5, c2.Q.l5, c2.Q.f11, c2.Q.t6, c2.Q.l6, c2.Q.f12, c2.Q.t7, c2.Q.l7, c2.Q.f13, c2.Q.t8, c2.Q.l8, c2.Q.f14, c2.Q.t9, c2.Q.l9, c2.nw, c2.np, c2.nv, c2.nb, c2.yr, c2.bud, c2.pot, c2.pd, ec, true_and]
      rw [w32_id (x := s1 2 0 - s1 6 p) (by omega) (by omega)]
      have c3 := c2.u2 (c2.S.u2 (v := s1 2 0 - s1 6 p) ⟨by omega, by omega⟩)
      refine ⟨⟨r0, by omega⟩, c3.P.t, c72 c3 (((cy.fs f2).w (by omega) (by omega)).cg (fun o => su_ne (by omega)) (su_ne (by omega))) r0 r1 ((su_ne (by omega)).trans r7) (fun h3 f3 c4 cy3 => ?_)⟩
      show WP _ _ _ _
      rw [w32_nat (by omega)]
      have f4 := f2.fr.w (a := a) (i := 6) (v := s1 2 0 - s1 6 p) (by omega) (by omega)
      exact ih (i + 1) (by omega) h3 _ _ (f.tr (f4.tr f3)) c4 cy3 ((ct.fr c.Q f4 ap).fr c3.Q f3 ap) (e2.symm.trans e)
theorem c76 {d : Nat} {h : AH} {a q lo : Int} {pp ss : TT} {K : AK} (c : CC h a q pp ss) (e2 : am_m h a 2 = lo) (k : ∀ h2, Fr a 9 h h2 → CC h2 a q pp (s_gr pp ss (pp 1 0).toNat) → am_m h2 a 2 = lo → K 0 0 h2) : am_call (d + 1) 76 [(2, a)] h K := by
  refine v76 ?_
  have np := c.I.np
  suffices H : ∀ j : Nat, ∀ i : Nat, i + j = (pp 1 0).toNat → ∀ h1 y2, Fr a 9 h h1 → CC h1 a q pp (s_gr pp ss i) → am_m h1 a 2 = lo → WP (d + 1) 76 (2, [(2, a), (0, (i : Int)), y2], [], h1, 0, 0) K from H _ 0 (Nat.zero_add _) h _ Fr.rf c e2
  intro j
  induction j with
  | zero =>
    intro i hij h1 y2 f c e2
    refine v76_2 ?_
    simp only [c.P.t, c.P.f5, c.P.f3, c.P.t1, c.P.l1, c.P.f4, c.P.t2, c.P.l2, c.P.f8, c.P.t3, c.P.l3, c.P.f9, c.P.t4, c.P.l4, c.P.f10, c.P.t5, c.P.l5, c.P.f11, c.P.t6, c.P.l6, c.P.f12, c.P.t7, c.P.l7, c.P.f13, c.P.t8, c.P.l8, c.Q.t, c.Q.f6, c.Q.t1, c.Q.l1, c.Q.f7, c.Q.t2, c.Q.l2, c.Q.f8, c.Q.t3, c.Q.l3, c.Q.f9, c.Q.t4, c.Q.l4, c.Q.f10, c.Q.t5, c.Q.l5, c.Q.f11, c.Q.t6, c.Q.l6, c.Q.f12, c.Q.t7, c.Q.l7, c.Q.f13, c.Q.t8, c.Q.l8, c.Q.f14, c.Q.t9, c.Q.l9, c.nw, c.np, c.nv, c.nb, c.yr, c.bud, c.pot, c.pd, true_and]
    refine ⟨fun z => absurd z (by omega), fun _ => ?_⟩
    refine k h1 f ?_ e2
    rw [show (pp 1 0).toNat = i by omega]
    exact c
  | succ j ih =>
    intro i hij h1 y2 f c e2
    have G := fun h2 y2 => ih (i + 1) (by omega) h2 y2
    rw [s_gr_succ] at G
    have gb := c.I.grows (i := (i : Int)) (by omega) (by omega)
    generalize s_gr pp ss i = sx at c G
    have e4 := c.cost (i := (i : Int)) (by omega) (by omega)
    have e5 := c.grows (i := (i : Int)) (by omega) (by omega)
    have cb := c.S.cost (i := (i : Int)) (by omega) (by omega)
    refine v76_2 ?_
    simp only [c.P.t, c.P.f5, c.P.f3, c.P.t1, c.P.l1, c.P.f4, c.P.t2, c.P.l2, c.P.f8, c.P.t3, c.P.l3, c.P.f9, c.P.t4, c.P.l4, c.P.f10, c.P.t5, c.P.l5, c.P.f11, c.P.t6, c.P.l6, c.P.f12, c.P.t7, c.P.l7, c.P.f13, c.P.t8, c.P.l8, c.Q.t, c.Q.f6, c.Q.t1, c.Q.l1, c.Q.f7, c.Q.t2, c.Q.l2, c.Q.f8, c.Q.t3, c.Q.l3, c.Q.f9, c.Q.t4, c.Q.l4, c.Q.f10, c.Q.t5, c.Q.l5, c.Q.f11, c.Q.t6, c.Q.l6, c.Q.f12, c.Q.t7, c.Q.l7, c.Q.f13, c.Q.t8, c.Q.l8, c.Q.f14, c.Q.t9, c.Q.l9, c.nw, c.np, c.nv, c.nb, c.yr, c.bud, c.pot, c.pd, true_and]
    refine ⟨fun _ => c58 c (by omega) (by omega) ?_, fun z => absurd (show (i : Int) < pp 1 0 by omega) z⟩
    show _ ∧ _
    simp only [c.P.t, c.P.f5, c.P.f3, c.P.t1, c.P.l1, c.P.f4, c.P.t2, c.P.l2, c.P.f8, c.P.t3, c.P.l3, c.P.f9, c.P.t4, c.P.l4, c.P.f10, c.P.t5, c.P.l5, c.P.f11, c.P.t6, c.P.l6, c.P.f12, c.P.t7, c.P.l7, c.P.f13, c.P.t8, c.P.l8, c.Q.t, c.Q.f6, c.Q.t1, c.Q.l1, c.Q.f7, c.Q.t2, c.Q.l2, c.Q.f8, c.Q.t3, c.Q.l3, c.Q.f9, c.Q.t4, c.Q.l4, c.Q.f10, c.Q.t5, c.Q.l5, c.Q.f11, c.Q.t6, c.Q.l6, c.Q.f12, c.Q.t7, c.Q.l7, c.Q.f13, c.Q.t8, c.Q.l8, c.Q.f14, c.Q.t9, c.Q.l9, c.nw, c.np, c.nv, c.nb, c.yr, c.bud, c.pot, c.pd, e4, e5, true_and]
    rw [w32_nat (by omega)]
    by_cases z : sx 7 (i : Int) = -1
    · rw [if_pos z] at G ⊢
      refine ⟨fun z2 => absurd z2 (by decide), fun _ => ?_⟩
      exact ⟨⟨by omega, by omega⟩, ⟨by omega, by omega⟩, (by decide), ⟨by omega, by omega⟩, ⟨by omega, by omega⟩, G _ _ (f.w (by omega) (by omega)) (c.u6 (c.S.u6 (g1_bd cb.1 cb.2 gb.1 gb.2))) (by rw [am_m_w, if_neg (by omega)]; exact e2)⟩
    · rw [if_neg z] at G ⊢
      exact ⟨fun _ => G _ _ f c e2, fun z2 => absurd rfl z2⟩
