/-! ===== the class's faces that act ===== -/
theorem SB.bld {pp ss : TT} {p : Int} (y0 : 0 ≤ ss 0 0) (hs : ∀ o, 0 ≤ o → o < pp 1 0 → o ≠ p → ss 8 o = 1 → ss 7 o ≠ -1) : SB pp (s_bld ss p) := fun o z1 z2 z3 => by
  by_cases z : o = p
  · subst z
    rw [s_bld_7]
    omega
  · rw [s_bld_ne (fun y => z y.2) (by omega)]
    rw [s_bld_ne (k := 8) (by omega) (by omega)] at z3
    exact hs o z1 z2 z z3
theorem SB.b2 {pp : TT} {tt : Int → List Op} {lo : Int} (hI : PI pp) : ∀ (n : Nat) {ss : TT}, 0 ≤ ss 0 0 → SB pp ss → SB pp (s_b2 pp tt lo n ss)
  | 0, _, _, hs => hs
  | n + 1, ss, y0, hs => by
    unfold s_b2
    split
    · exact hs
    · refine SB.b2 hI n ?_ ?_
      · rw [s_buy_ne (Or.inl rfl)]
        exact y0
      · refine SB.bld ?_ (fun o z1 z2 z3 z4 => ?_)
        · rw [su_ne (by omega), s_bf_ne (by decide) (by decide)]
          exact y0
        · rw [su_ne (by omega), s_bf_ne (by decide) (by decide)] at z4 ⊢
          exact hs o z1 z2 z4
theorem SB.b3 {pp : TT} {tt : Int → List Op} {lo : Int} : ∀ (n : Nat) {ss : TT}, 0 ≤ ss 0 0 → SB pp ss → SB pp (s_b3 pp tt lo n ss)
  | 0, _, _, hs => hs
  | n + 1, ss, y0, hs => by
    unfold s_b3
    split
    · exact hs
    · refine SB.b3 n ?_ ?_
      · have e : s_pot ss (s_px pp ss tt lo) 0 0 = ss 0 0 := (s_bld_ne (by omega) (by omega)).trans (su_ne (by omega))
        rw [e]
        exact y0
      · refine SB.bld ?_ (fun o z1 z2 z3 z4 => ?_)
        · rw [su_ne (by omega)]
          exact y0
        · rw [su_ne (by omega)] at z4 ⊢
          exact hs o z1 z2 z4
theorem SB.year {pp ss : TT} {tt : Int → List Op} {lo : Int} (hI : PI pp) (y0 : 0 ≤ ss 0 0) (hs : SB pp ss) : SB pp (s_year pp tt lo ss) := by
  have h0 : SB pp (s_col pp ss) := fun o z1 z2 z3 => by
    rw [s_col_ne (by decide) (by decide)] at z3 ⊢
    exact hs o z1 z2 z3
  have e0 : s_col pp ss 0 0 = ss 0 0 := s_col_ne (by decide) (by decide)
  have h1 := SB.b2 (tt := tt) (lo := lo) hI 12 (by rw [e0]; exact y0) h0
  have h2 := SB.b3 (tt := tt) (lo := lo) 12 (by rw [s_b2_0 hI, e0]; exact y0) h1
  intro o z1 z2 z3
  have e8 : s_year pp tt lo ss 8 o = s_b3 pp tt lo 12 (s_b2 pp tt lo 12 (s_col pp ss)) 8 o := (su_ne (by omega)).trans (s_gr_ne (by decide) _)
  have e7 : s_year pp tt lo ss 7 o = s_b3 pp tt lo 12 (s_b2 pp tt lo 12 (s_col pp ss)) 7 o := (su_ne (by omega)).trans (s_gr_ne (by decide) _)
  rw [e8] at z3
  rw [e7]
  exact h2 o z1 z2 z3
theorem SB.ys {pp : TT} {tt : Int → List Op} {lo : Int} (hI : PI pp) : ∀ (n : Nat) {ss : TT}, 0 ≤ ss 0 0 → SB pp ss → SB pp (s_ys pp tt lo n ss)
  | 0, _, _, hs => hs
  | n + 1, ss, y0, hs => by
    show SB pp (s_ys pp tt lo n (s_year pp tt lo ss))
    exact SB.ys hI n (by rw [s_year_0]; omega) (SB.year hI y0 hs)
theorem SB.su {pp ss : TT} {k : Nat} {i x : Int} (hs : SB pp ss) (h7 : k ≠ 7) (h8 : k ≠ 8) : SB pp (su ss k i x) := fun o z1 z2 z3 => by
  rw [su_ne (fun z => h8 z.1.symm)] at z3
  rw [su_ne (fun z => h7 z.1.symm)]
  exact hs o z1 z2 z3
theorem hb_su {pp ss : TT} {k : Nat} {i x : Int} (hb : ∀ p, 0 ≤ p → p < pp 1 0 → ss 7 p < ss 0 0) (h7 : k ≠ 7) (h0 : k ≠ 0) : ∀ p, 0 ≤ p → p < pp 1 0 → su ss k i x 7 p < su ss k i x 0 0 := fun o z1 z2 => by
  rw [su_ne (fun z => h7 z.1.symm), su_ne (fun z => h0 z.1.symm)]
  exact hb o z1 z2
theorem t48 {d : Nat} {h : AH} {pp ss : TT} {tt : Int → List Op} {tp : Int → Int} {tl er q dq : Int} {K : AK} (g : GC h pp ss tt tl tp er q dq) (k : ∀ h2, Fr 44 9 h h2 → CC h2 44 q pp ss → am_m h2 44 2 = -1 → CT h2 q pp tt → GC h2 pp ss tt tl tp er q dq → K 0 0 h2) : am_call d 48 [(2, 44), (2, 35)] h K := by
  obtain ⟨q2, x⟩ := g.tr
  have hq := g.qd
  exact c48 g.c x (by omega) (by omega) (fun h2 f c2 l2 => k h2 f c2 l2 (g.ct.fr g.c.Q f (by omega)) (g.tw f ⟨_, c2.P⟩))
theorem c115 {d : Nat} {h : AH} {pp ss : TT} {tt : Int → List Op} {tp : Int → Int} {tl er q dq : Int} {K : AK} (g : GC h pp ss tt tl tp er q dq) (k : ∀ h2, Fr 44 9 h h2 → GC h2 pp ss tt tl tp er q dq → K 0 (s_nx pp (s_col pp ss) tt (-1)) h2) : am_call (d + 7) 115 [(2, 0)] h K := by
  have hq := g.qd
  refine v115 ?_
  simp only [g.t0, g.f3, g.f8, g.f9, g.c.P.t, g.c.Q.t, true_and]
  obtain ⟨q2, x⟩ := g.tr
  simp only [x.t, true_and]
  refine t48 g (fun h2 f2 c2 l2 ct2 g2 => ?_)
  show _ ∧ _
  simp only [g2.t0, g2.f9, c2.P.t, true_and]
  refine c67 c2 l2 g.hb (fun h3 f3 c3 cy3 => ?_)
  have g3 := g2.tw f3 ⟨_, c3.P⟩
  show _ ∧ _
  simp only [g3.t0, g3.f9, c3.P.t, true_and]
  refine c69 c3 cy3 (ct2.fr c2.Q f3 (by omega)) (fun h4 f4 c4 => ?_)
  exact k h4 (f2.tr (f3.tr f4.fr)) (g3.tw f4.fr ⟨_, c4.P⟩)
theorem c116 {d : Nat} {h : AH} {pp ss : TT} {tt : Int → List Op} {tp : Int → Int} {tl er q dq v p x : Int} {K : AK} (g : GC h pp ss tt tl tp er q dq) (hx : x = 0 ∨ x = 1) (k0 : (0 ≤ v ∧ v < pp 2 0) ∧ 0 ≤ p ∧ p < pp 1 0 → ∀ h2, Fr 35 18 h h2 → GC h2 pp (su ss 9 (12 * v + p) x) tt tl tp er q dq → K 0 (ss 9 (12 * v + p)) h2) (k3 : ¬ ((0 ≤ v ∧ v < pp 2 0) ∧ 0 ≤ p ∧ p < pp 1 0) → ∀ h2, Fr 35 18 h h2 → GC h2 pp ss tt tl tp er q dq → K 3 0 h2) : am_call (d + 1) 116 [(2, 0), (0, v), (0, p), (0, x)] h K := by
  have nv := g.c.I.nv
  refine v116 ?_
  simp only [g.t0, g.f3, g.f8, g.f9, g.c.P.t, g.c.Q.t, true_and]
  refine c88 g.c.Q.t ?_
  rw [g.c.nv]
  show _ ∧ _
  refine ⟨fun z => ⟨⟨Nat.le_refl _, Nat.le_refl _⟩, fun m hm => k3 (fun z2 => ?_) _ (Fr.rf.sn hm) (g.sn hm)⟩, fun z => ?_⟩
  · rw [if_pos z2.1] at z
    exact absurd z (by decide)
  · have zw : 0 ≤ v ∧ v < pp 2 0 := Decidable.byContradiction fun z2 => z (if_neg z2)
    simp only [g.t0, g.f3, g.f8, g.f9, g.c.P.t, g.c.Q.t, true_and]
    refine c87 g.c.Q.t ?_
    rw [g.c.np]
    show _ ∧ _
    refine ⟨fun z => ⟨⟨Nat.le_refl _, Nat.le_refl _⟩, fun m hm => k3 (fun z2 => ?_) _ (Fr.rf.sn hm) (g.sn hm)⟩, fun z => ?_⟩
    · rw [if_pos z2.2] at z
      exact absurd z (by decide)
    · have zp : 0 ≤ p ∧ p < pp 1 0 := Decidable.byContradiction fun z2 => z (if_neg z2)
      simp only [g.t0, g.f3, g.f8, g.f9, g.c.P.t, g.c.Q.t, true_and]
      refine c59 g.c zw.1 (by omega) zp.1 zp.2 ?_
      show _ ∧ _
      simp only [g.t0, g.f3, g.f8, g.f9, g.c.P.t, g.c.Q.t, true_and]
      exact c63 g.c g.lo zw.1 zw.2 zp.1 zp.2 hx (fun h2 f2 c2 l2 => ⟨g.c.S.fan _, k0 ⟨zw, zp⟩ h2 (f2.wide (by decide) (by decide)) (g.pw f2 c2 l2 (hb_su g.hb (by decide) (by decide)) (g.sb.su (by decide) (by decide)))⟩)
theorem c117 {d : Nat} {h : AH} {pp ss : TT} {tt : Int → List Op} {tp : Int → Int} {tl er q dq v x : Int} {K : AK} (g : GC h pp ss tt tl tp er q dq) (k0 : (0 ≤ v ∧ v < pp 2 0) ∧ 1 ≤ x ∧ x ≤ 999 → ∀ h2, Fr 35 18 h h2 → GC h2 pp (su ss 4 v (min 9999 (ss 4 v + x))) tt tl tp er q dq → K 0 (min 9999 (ss 4 v + x)) h2) (k2 : (0 ≤ v ∧ v < pp 2 0) ∧ ¬ (1 ≤ x ∧ x ≤ 999) → ∀ h2, Fr 35 18 h h2 → GC h2 pp ss tt tl tp er q dq → K 2 0 h2) (k3 : ¬ (0 ≤ v ∧ v < pp 2 0) → ∀ h2, Fr 35 18 h h2 → GC h2 pp ss tt tl tp er q dq → K 3 0 h2) : am_call (d + 1) 117 [(2, 0), (0, v), (0, x)] h K := by
  have nv := g.c.I.nv
  refine v117 ?_
  simp only [g.t0, g.f3, g.f8, g.f9, g.c.P.t, g.c.Q.t, true_and]
  refine c88 g.c.Q.t ?_
  rw [g.c.nv]
  show _ ∧ _
  refine ⟨fun z => ⟨⟨Nat.le_refl _, Nat.le_refl _⟩, fun m hm => k3 (fun z2 => ?_) _ (Fr.rf.sn hm) (g.sn hm)⟩, fun z => ?_⟩
  · rw [if_pos z2] at z
    exact absurd z (by decide)
  · have zw : 0 ≤ v ∧ v < pp 2 0 := Decidable.byContradiction fun z2 => z (if_neg z2)
    refine ⟨fun z1 => ⟨⟨Nat.le_refl _, Nat.le_refl _⟩, fun m hm => k2 (by omega) _ (Fr.rf.sn hm) (g.sn hm)⟩, fun z1 => ⟨fun z2 => ⟨⟨Nat.le_refl _, Nat.le_refl _⟩, fun m hm => k2 (by omega) _ (Fr.rf.sn hm) (g.sn hm)⟩, fun z2 => ?_⟩⟩
    simp only [g.t0, g.f3, g.f8, g.f9, g.c.P.t, g.c.Q.t, true_and]
    have pb := g.c.S.purse zw.1 zw.2
    have c2 := g.c.u4 (i := v) (v := min 9999 (ss 4 v + x)) (g.c.S.u4 ⟨by omega, by omega⟩)
    have f2 : Fr 35 9 h (am_w h (35 + 1) v (min 9999 (ss 4 v + x))) := Fr.rf.w (by decide) (by decide)
    have g2 := g.pw f2 c2 (by rw [am_m_w, if_neg (by omega)]; exact g.lo) (hb_su g.hb (by decide) (by decide)) (g.sb.su (by decide) (by decide))
    refine c64 g.c zw.1 zw.2 (by omega) (by omega) ?_
    show _ ∧ _
    have e1 := c2.purse zw.1 zw.2
    rw [su_eq] at e1
    simp only [g2.t0, g2.f8, c2.P.t, c2.P.f5, c2.P.f3, c2.P.t1, c2.P.l1, c2.P.f4, c2.P.t2, c2.P.l2, c2.P.f8, c2.P.t3, c2.P.l3, c2.P.f9, c2.P.t4, c2.P.l4, c2.P.f10, c2.P.t5, c2.P.l5, c2.P.f11, c2.P.t6, c2.P.l6, c2.P.f12, c2.P.t7, c2.P.l7, c2.P.f13, c2.P.t8, c2.P.l8, c2.Q.t, c2.Q.f6, c2.Q.t1, c2.Q.l1, c2.Q.f7, c2.Q.t2, c2.Q.l2, c2.Q.f8, c2.Q.t3, c2.Q.l3, c2.Q.f9, c2.Q.t4, c2.Q.l4, c2.Q.f10, c2.Q.t5, c2.Q.l5, c2.Q.f11, c2.Q.t6, c2.Q.l6, c2.Q.f12, c2.Q.t7, c2.Q.l7, c2.Q.f13, c2.Q.t8, c2.Q.l8, c2.Q.f14, c2.Q.t9, c2.Q.l9, c2.nw, c2.np, c2.nv, c2.nb, c2.yr, c2.bud, c2.pot, c2.pd, e1, true_and]
    exact ⟨⟨zw.1, by omega⟩, k0 ⟨zw, by omega, by omega⟩ _ (f2.wide (by decide) (by decide)) g2⟩
theorem c118 {d : Nat} {h : AH} {pp ss : TT} {tt : Int → List Op} {tp : Int → Int} {tl er q dq x : Int} {K : AK} (g : GC h pp ss tt tl tp er q dq) (k0 : 0 ≤ x ∧ x ≤ 9999 → ∀ h2, Fr 35 18 h h2 → GC h2 pp (su ss 1 0 x) tt tl tp er q dq → K 0 (ss 1 0) h2) (k2 : ¬ (0 ≤ x ∧ x ≤ 9999) → ∀ h2, Fr 35 18 h h2 → GC h2 pp ss tt tl tp er q dq → K 2 0 h2) : am_call d 118 [(2, 0), (0, x)] h K := by
  refine v118 ⟨fun z1 => ⟨⟨Nat.le_refl _, Nat.le_refl _⟩, fun m hm => k2 (by omega) _ (Fr.rf.sn hm) (g.sn hm)⟩, fun z1 => ⟨fun z2 => ⟨⟨Nat.le_refl _, Nat.le_refl _⟩, fun m hm => k2 (by omega) _ (Fr.rf.sn hm) (g.sn hm)⟩, fun z2 => ?_⟩⟩
  simp only [g.t0, g.f3, g.f8, g.f9, g.c.P.t, g.c.Q.t, true_and, g.c.bud]
  have c2 := g.c.u1 (v := x) (g.c.S.u1 ⟨by omega, by omega⟩)
  have f2 : Fr 35 9 h (am_w h 35 1 x) := Fr.rf.w (by decide) (by decide)
  exact k0 ⟨by omega, by omega⟩ _ (f2.wide (by decide) (by decide)) (g.pw f2 c2 (by rw [am_m_w, if_neg (by omega)]; exact g.lo) (hb_su g.hb (by decide) (by decide)) (g.sb.su (by decide) (by decide)))
theorem c119 {d : Nat} {h : AH} {pp ss : TT} {tt : Int → List Op} {tp : Int → Int} {tl er q dq p : Int} {K : AK} (g : GC h pp ss tt tl tp er q dq) (k0 : (0 ≤ p ∧ p < pp 1 0) ∧ ss 7 p ≠ -1 → ∀ h2, Fr 35 18 h h2 → GC h2 pp (su (su ss 7 p (-1)) 8 p 0) tt tl tp er q dq → K 0 (ss 7 p) h2) (k1 : (0 ≤ p ∧ p < pp 1 0) ∧ ss 7 p = -1 → ∀ h2, Fr 35 18 h h2 → GC h2 pp ss tt tl tp er q dq → K 1 0 h2) (k3 : ¬ (0 ≤ p ∧ p < pp 1 0) → ∀ h2, Fr 35 18 h h2 → GC h2 pp ss tt tl tp er q dq → K 3 0 h2) : am_call (d + 1) 119 [(2, 0), (0, p)] h K := by
  have np := g.c.I.np
  refine v119 ?_
  simp only [g.t0, g.f3, g.f8, g.f9, g.c.P.t, g.c.Q.t, true_and]
  refine c87 g.c.Q.t ?_
  rw [g.c.np]
  show _ ∧ _
  refine ⟨fun z => ⟨⟨Nat.le_refl _, Nat.le_refl _⟩, fun m hm => k3 (fun z2 => ?_) _ (Fr.rf.sn hm) (g.sn hm)⟩, fun z => ?_⟩
  · rw [if_pos z2] at z
    exact absurd z (by decide)
  · have zw : 0 ≤ p ∧ p < pp 1 0 := Decidable.byContradiction fun z2 => z (if_neg z2)
    have y0 := g.c.S.yr
    simp only [g.t0, g.f3, g.f8, g.f9, g.c.P.t, g.c.Q.t, true_and]
    refine c58 g.c zw.1 zw.2 ?_
    show _ ∧ _
    have e1 := g.c.built zw.1 zw.2
    simp only [g.t0, g.f8, g.c.P.t, g.c.P.f5, g.c.P.f3, g.c.P.t1, g.c.P.l1, g.c.P.f4, g.c.P.t2, g.c.P.l2, g.c.P.f8, g.c.P.t3, g.c.P.l3, g.c.P.f9, g.c.P.t4, g.c.P.l4, g.c.P.f10, g.c.P.t5, g.c.P.l5, g.c.P.f11, g.c.P.t6, g.c.P.l6, g.c.P.f12, g.c.P.t7, g.c.P.l7, g.c.P.f13, g.c.P.t8, g.c.P.l8, g.c.Q.t, g.c.Q.f6, g.c.Q.t1, g.c.Q.l1, g.c.Q.f7, g.c.Q.t2, g.c.Q.l2, g.c.Q.f8, g.c.Q.t3, g.c.Q.l3, g.c.Q.f9, g.c.Q.t4, g.c.Q.l4, g.c.Q.f10, g.c.Q.t5, g.c.Q.l5, g.c.Q.f11, g.c.Q.t6, g.c.Q.l6, g.c.Q.f12, g.c.Q.t7, g.c.Q.l7, g.c.Q.f13, g.c.Q.t8, g.c.Q.l8, g.c.Q.f14, g.c.Q.t9, g.c.Q.l9, g.c.nw, g.c.np, g.c.nv, g.c.nb, g.c.yr, g.c.bud, g.c.pot, g.c.pd, e1, true_and]
    refine ⟨fun z => ?_, fun z => ⟨⟨Nat.le_refl _, Nat.le_refl _⟩, fun m hm => k1 (?_) _ (Fr.rf.sn hm) (g.sn hm)⟩⟩
    · have zo : ss 7 p ≠ -1 := fun z2 => by
        rw [if_pos z2] at z
        exact absurd z (by decide)
      refine ⟨⟨zw.1, by omega⟩, c65 g.c g.lo zw.1 zw.2 (fun h2 f2 c2 l2 => k0 ⟨zw, zo⟩ h2 (f2.wide (by decide) (by decide)) (g.pw f2 c2 l2 (fun o z1 z2 => ?_) (fun o z1 z2 z3 => ?_)))⟩
      · rw [su_ne (k' := 7) (by omega), su_ne (k' := 0) (by omega), su_ne (k' := 0) (by omega)]
        by_cases zz : o = p
        · subst zz
          rw [su_eq]
          omega
        · rw [su_ne (by omega)]
          exact g.hb o z1 z2
      · by_cases zz : o = p
        · subst zz
          rw [su_eq] at z3
          exact absurd z3 (by decide)
        · rw [su_ne (by omega), su_ne (by omega)] at z3 ⊢
          exact g.sb o z1 z2 z3
    · exact Decidable.byContradiction fun z2 => z (if_neg (fun z3 => z2 ⟨zw, z3⟩))
theorem c120 {d : Nat} {h : AH} {pp ss : TT} {tt : Int → List Op} {tp : Int → Int} {tl er q dq n : Int} {K : AK} (g : GC h pp ss tt tl tp er q dq) (hy : ss 0 0 + 100 < 2000000000) (k0 : 1 ≤ n ∧ n ≤ 60 → ∀ h2, Fr 35 18 h h2 → GC h2 pp (s_ys pp tt (-1) n.toNat ss) tt tl tp er q dq → K 0 (w32 (s_bc pp (s_ys pp tt (-1) n.toNat ss) - s_bc pp ss)) h2) (k2 : ¬ (1 ≤ n ∧ n ≤ 60) → ∀ h2, Fr 35 18 h h2 → GC h2 pp ss tt tl tp er q dq → K 2 0 h2) : am_call (d + 9) 120 [(2, 0), (0, n)] h K := by
  have y0 := g.c.S.yr
  refine v120 ⟨fun z1 => ⟨⟨Nat.le_refl _, Nat.le_refl _⟩, fun m hm => k2 (by omega) _ (Fr.rf.sn hm) (g.sn hm)⟩, fun z1 => ⟨fun z2 => ⟨⟨Nat.le_refl _, Nat.le_refl _⟩, fun m hm => k2 (by omega) _ (Fr.rf.sn hm) (g.sn hm)⟩, fun z2 => ?_⟩⟩
  simp only [g.t0, g.f3, g.f8, g.f9, g.c.P.t, g.c.Q.t, true_and]
  refine c51 g.c ?_
  show _ ∧ _
  simp only [g.t0, g.f3, g.f8, g.f9, g.c.P.t, g.c.Q.t, true_and]
  refine c66 g.c g.lo g.ct (by omega) (by omega) g.hb (fun h2 f2 c2 l2 hb2 => ?_)
  have g2 := g.pw f2 c2 l2 hb2 (SB.ys g.c.I _ y0.1 g.sb)
  show _ ∧ _
  simp only [g2.t0, g2.f8, g2.c.P.t, true_and]
  exact c51 c2 (k0 ⟨by omega, by omega⟩ h2 (f2.wide (by decide) (by decide)) g2)
theorem c122 {d : Nat} {h : AH} {pp ss : TT} {tt : Int → List Op} {tp : Int → Int} {tl er q dq n w : Int} {K : AK} (g : GC h pp ss tt tl tp er q dq) (hy : ss 0 0 + 100 < 2000000000) (k0 : (1 ≤ n ∧ n ≤ 60) ∧ 6 ≤ w ∧ w ≤ 10 → ∀ h2, Fr 35 18 h h2 → GC h2 pp ss tt tl tp er q dq → K 0 (s_tot pp (s_ys pp tt (-1) n.toNat ss) w) h2) (k2 : ¬ (1 ≤ n ∧ n ≤ 60) → ∀ h2, Fr 35 18 h h2 → GC h2 pp ss tt tl tp er q dq → K 2 0 h2) (k3 : (1 ≤ n ∧ n ≤ 60) ∧ ¬ (6 ≤ w ∧ w ≤ 10) → ∀ h2, Fr 35 18 h h2 → GC h2 pp ss tt tl tp er q dq → K 3 0 h2) : am_call (d + 9) 122 [(2, 0), (0, n), (0, w)] h K := by
  refine v122 ⟨fun z1 => ⟨⟨Nat.le_refl _, Nat.le_refl _⟩, fun m hm => k2 (by omega) _ (Fr.rf.sn hm) (g.sn hm)⟩, fun z1 => ⟨fun z2 => ⟨⟨Nat.le_refl _, Nat.le_refl _⟩, fun m hm => k2 (by omega) _ (Fr.rf.sn hm) (g.sn hm)⟩, fun z2 => ⟨fun z3 => ⟨⟨Nat.le_refl _, Nat.le_refl _⟩, fun m hm => k3 (by omega) _ (Fr.rf.sn hm) (g.sn hm)⟩, fun z3 => ⟨fun z4 => ⟨⟨Nat.le_refl _, Nat.le_refl _⟩, fun m hm => k3 (by omega) _ (Fr.rf.sn hm) (g.sn hm)⟩, fun z4 => ?_⟩⟩⟩⟩
  obtain ⟨q2, x⟩ := g.tr
  simp only [g.t0, g.f3, g.f8, g.f9, g.c.P.t, g.c.Q.t, true_and, x.t]
  refine t48 g (fun h2 f2 c2 l2 ct2 g2 => ?_)
  show _ ∧ _
  simp only [g2.t0, g2.f9, c2.P.t, true_and]
  refine c66 c2 l2 ct2 (by omega) (by omega) g.hb (fun h3 f3 c3 l3 hb3 => ?_)
  have g3 := g2.tw f3 ⟨_, c3.P⟩
  show _ ∧ _
  simp only [g3.t0, g3.f9, c3.P.t, true_and]
  exact c49 c3 (k0 ⟨⟨by omega, by omega⟩, by omega, by omega⟩ h3 ((f2.tr f3).wide (by decide) (by decide)) g3)
