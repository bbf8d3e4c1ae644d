/-! ===== looking ahead: the class ===== -/
noncomputable def s_ul (pp : TT) (tt : Int → List Op) (p : Int) : Nat → Int → TT → Int
  | 0, _, _ => -1
  | n + 1, i, st => if st 7 p = -1 then s_ul pp tt p n (i + 1) (s_year pp tt (-1) st) else i
noncomputable def s_av (pp ss : TT) (tt : Int → List Op) (v : Int) (n : Nat) : Nat → Int × Int
  | 0 => (-1, s_pl pp (s_ys pp tt (-1) n ss) v)
  | p + 1 => if ss 7 (p : Int) = -1 ∧ ss 9 (12 * v + (p : Int)) = 0 ∧ (s_av pp ss tt v n p).2 < s_pl pp (s_ys pp tt (-1) n (su ss 9 (12 * v + (p : Int)) 1)) v then ((p : Int), s_pl pp (s_ys pp tt (-1) n (su ss 9 (12 * v + (p : Int)) 1)) v) else s_av pp ss tt v n p
noncomputable def s_sp (pp ss : TT) (tt : Int → List Op) (n : Nat) : Nat → Int × Int
  | 0 => (-1, -1)
  | p + 1 => if ss 7 (p : Int) = -1 ∧ (s_sp pp ss tt n p).2 < s_bc pp (s_ys pp tt (p : Int) n ss) then ((p : Int), s_bc pp (s_ys pp tt (p : Int) n ss)) else s_sp pp ss tt n p
theorem c121 {d : Nat} {h : AH} {pp ss : TT} {tt : Int → List Op} {tp : Int → Int} {tl er q dq p : Int} {K : AK} (g : GC h pp ss tt tl tp er q dq) (hy : ss 0 0 + 100 < 2000000000) (k0 : (0 ≤ p ∧ p < pp 1 0) → ∀ h2, Fr 35 18 h h2 → GC h2 pp ss tt tl tp er q dq → K 0 (s_ul pp tt p 61 0 ss) h2) (k3 : ¬ (0 ≤ p ∧ p < pp 1 0) → ∀ h2, Fr 35 18 h h2 → GC h2 pp ss tt tl tp er q dq → K 3 0 h2) : am_call (d + 9) 121 [(2, 0), (0, p)] h K := by
  have y0 := g.c.S.yr
  have hq := g.qd
  refine v121 ?_
  simp only [g.t0, g.f3, g.f8, g.f9, g.c.P.t, g.c.Q.t, true_and]
  refine c87 g.c.Q.t ?_
  rw [g.c.np]
  show _ ∧ _
  refine ⟨fun z => ⟨⟨Nat.le_refl _, Nat.le_refl _⟩, fun m hm => k3 (fun z2 => ?_) _ (Fr.rf.sn hm) (g.sn hm)⟩, fun z => ?_⟩
  · rw [if_pos z2] at z
    exact absurd z (by decide)
  have zw : 0 ≤ p ∧ p < pp 1 0 := Decidable.byContradiction fun z2 => z (if_neg z2)
  have H : ∀ j : Nat, ∀ i : Nat, i + j = 61 → 1 ≤ i → ∀ h1 st, Fr 44 9 h h1 → GC h1 pp ss tt tl tp er q dq → CC h1 44 q pp st → am_m h1 44 2 = -1 → st 0 0 + 1 = ss 0 0 + (i : Int) → (∀ o, 0 ≤ o → o < pp 1 0 → st 7 o < st 0 0) → s_ul pp tt p j (i : Int) (s_year pp tt (-1) st) = s_ul pp tt p 61 0 ss → WP (d + 9) 121 (34, [(2, 0), (0, p), (0, (i : Int))], [], h1, 0, 0) K := by
    intro j
    induction j with
    | zero =>
      intro i hij hi h1 st f g1 c l2 ey hb e
      refine v121_34 ⟨fun _ => ?_, fun z => absurd (show (60 : Int) < (i : Int) by omega) z⟩
      have k1 := k0 zw h1 (f.wide (by decide) (by decide)) g1
      rw [← e] at k1
      exact k1
    | succ j ih =>
      intro i hij hi h1 st f g1 c l2 ey hb e
      refine v121_34 ⟨fun z => absurd z (by omega), fun _ => ⟨fun _ => ?_, fun z => absurd (show (0 : Int) < (i : Int) by omega) z⟩⟩
      simp only [g1.t0, g1.f9, c.P.t, true_and]
      refine c66 c l2 (g1.ct.fr (lo := 44) (n := 9) g1.c.Q Fr.rf (by omega)) (by decide) (by omega) hb (fun h2 f2 c2 l3 hb2 => ?_)
      have g2 := g1.tw f2 ⟨_, c2.P⟩
      have e2 : s_ys pp tt (-1) (1 : Int).toNat st = s_year pp tt (-1) st := rfl
      rw [e2] at c2 hb2
      show _ ∧ _
      simp only [g2.t0, g2.f9, c2.P.t, true_and]
      refine c58 c2 zw.1 zw.2 ?_
      have eu : s_ul pp tt p (j + 1) (i : Int) (s_year pp tt (-1) st) = if s_year pp tt (-1) st 7 p = -1 then s_ul pp tt p j ((i : Int) + 1) (s_year pp tt (-1) (s_year pp tt (-1) st)) else (i : Int) := rfl
      rw [eu] at e
      show _ ∧ _
      by_cases z : s_year pp tt (-1) st 7 p = -1
      · rw [if_pos z] at e ⊢
        refine ⟨fun z2 => absurd z2 (by decide), fun _ => ?_⟩
        rw [w32_nat (by omega)]
        exact ih (i + 1) (by omega) (by omega) h2 _ (f.tr f2) g2 c2 l3 (by rw [s_year_0]; omega) hb2 e
      · rw [if_neg z] at e ⊢
        refine ⟨fun _ => ?_, fun z2 => absurd rfl z2⟩
        have k1 := k0 zw h2 ((f.tr f2).wide (by decide) (by decide)) g2
        rw [← e] at k1
        exact k1
  obtain ⟨q2, x⟩ := g.tr
  simp only [g.t0, g.f3, g.f8, g.f9, g.c.P.t, g.c.Q.t, true_and, x.t]
  refine t48 g (fun h2 f2 c2 l2 ct2 g2 => ?_)
  show WP _ _ _ _
  refine v121_34 ⟨fun z => absurd z (by decide), fun _ => ⟨fun z => absurd z (by decide), fun _ => ?_⟩⟩
  simp only [g2.t0, g2.f9, c2.P.t, true_and]
  refine c58 c2 zw.1 zw.2 ?_
  have e : s_ul pp tt p 61 0 ss = if ss 7 p = -1 then s_ul pp tt p 60 (0 + 1) (s_year pp tt (-1) ss) else 0 := rfl
  show _ ∧ _
  by_cases z : ss 7 p = -1
  · rw [if_pos z] at e ⊢
    refine ⟨fun z2 => absurd z2 (by decide), fun _ => ?_⟩
    rw [show w32 (0 + 1) = ((1 : Nat) : Int) from w32_id (by decide) (by decide)]
    exact H 60 1 rfl (Nat.le_refl _) h2 ss f2 g2 c2 l2 rfl g.hb e.symm
  · rw [if_neg z] at e ⊢
    refine ⟨fun _ => ?_, fun z2 => absurd rfl z2⟩
    have k1 := k0 zw h2 (f2.wide (by decide) (by decide)) g2
    rw [e] at k1
    exact k1
theorem c123 {d : Nat} {h : AH} {pp ss : TT} {tt : Int → List Op} {tp : Int → Int} {tl er q dq v n : Int} {K : AK} (g : GC h pp ss tt tl tp er q dq) (hy : ss 0 0 + 100 < 2000000000) (k0 : (0 ≤ v ∧ v < pp 2 0) ∧ 1 ≤ n ∧ n ≤ 20 → ∀ h2, Fr 35 18 h h2 → GC h2 pp ss tt tl tp er q dq → K 0 (s_av pp ss tt v n.toNat (pp 1 0).toNat).1 h2) (k2 : (0 ≤ v ∧ v < pp 2 0) ∧ ¬ (1 ≤ n ∧ n ≤ 20) → ∀ h2, Fr 35 18 h h2 → GC h2 pp ss tt tl tp er q dq → K 2 0 h2) (k3 : ¬ (0 ≤ v ∧ v < pp 2 0) → ∀ h2, Fr 35 18 h h2 → GC h2 pp ss tt tl tp er q dq → K 3 0 h2) : am_call (d + 9) 123 [(2, 0), (0, v), (0, n)] h K := by
  have y0 := g.c.S.yr
  have nv := g.c.I.nv
  have np := g.c.I.np
  refine v123 ?_
  simp only [g.t0, g.f3, g.f8, g.f9, g.c.P.t, g.c.Q.t, true_and]
  refine c88 g.c.Q.t ?_
  rw [g.c.nv]
  show _ ∧ _
  refine ⟨fun z => ⟨⟨Nat.le_refl _, Nat.le_refl _⟩, fun m hm => k3 (fun z2 => ?_) _ (Fr.rf.sn hm) (g.sn hm)⟩, fun z => ?_⟩
  · rw [if_pos z2] at z
    exact absurd z (by decide)
  have zw : 0 ≤ v ∧ v < pp 2 0 := Decidable.byContradiction fun z2 => z (if_neg z2)
  refine ⟨fun z1 => ⟨⟨Nat.le_refl _, Nat.le_refl _⟩, fun m hm => k2 (by omega) _ (Fr.rf.sn hm) (g.sn hm)⟩, fun z1 => ⟨fun z2 => ⟨⟨Nat.le_refl _, Nat.le_refl _⟩, fun m hm => k2 (by omega) _ (Fr.rf.sn hm) (g.sn hm)⟩, fun z2 => ?_⟩⟩
  have H : ∀ j : Nat, ∀ i : Nat, i + j = (pp 1 0).toNat → ∀ h1, Fr 44 9 h h1 → GC h1 pp ss tt tl tp er q dq → WP (d + 9) 123 (76, [(2, 0), (0, v), (0, n), (0, (s_av pp ss tt v n.toNat i).1), (0, (s_av pp ss tt v n.toNat i).2), (0, (i : Int))], [], h1, 0, 0) K := by
    intro j
    induction j with
    | zero =>
      intro i hij h1 f g1
      refine v123_76 ?_
      simp only [g1.t0, g1.f3, g1.f8, g1.f9, g1.c.P.t, g1.c.Q.t, true_and, g1.c.np]
      refine ⟨fun z => absurd z (by omega), fun _ => ?_⟩
      have k1 := k0 ⟨zw, by omega, by omega⟩ h1 (f.wide (by decide) (by decide)) g1
      rw [show (pp 1 0).toNat = i by omega] at k1
      exact k1
    | succ j ih =>
      intro i hij h1 f g1
      have G := ih (i + 1) (by omega)
      have es : s_av pp ss tt v n.toNat (i + 1) = if ss 7 (i : Int) = -1 ∧ ss 9 (12 * v + (i : Int)) = 0 ∧ (s_av pp ss tt v n.toNat i).2 < s_pl pp (s_ys pp tt (-1) n.toNat (su ss 9 (12 * v + (i : Int)) 1)) v then ((i : Int), s_pl pp (s_ys pp tt (-1) n.toNat (su ss 9 (12 * v + (i : Int)) 1)) v) else s_av pp ss tt v n.toNat i := rfl
      rw [es] at G
      generalize s_av pp ss tt v n.toNat i = r at G ⊢
      refine v123_76 ?_
      simp only [g1.t0, g1.f3, g1.f8, g1.f9, g1.c.P.t, g1.c.Q.t, true_and, g1.c.np]
      refine ⟨fun _ => c58 g1.c (by omega) (by omega) ?_, fun z => absurd (show (i : Int) < pp 1 0 by omega) z⟩
      show _ ∧ _
      rw [w32_nat (by omega)]
      by_cases z7 : ss 7 (i : Int) = -1
      · rw [if_pos z7]
        refine ⟨fun z => absurd z (by decide), fun _ => ?_⟩
        simp only [g1.t0, g1.f3, g1.f8, g1.f9, g1.c.P.t, g1.c.Q.t, true_and]
        refine c59 g1.c zw.1 (by omega) (by omega) (by omega) ?_
        show _ ∧ _
        refine ⟨fun z9 => ?_, fun z9 => ?_⟩
        · obtain ⟨q2, x⟩ := g1.tr
          simp only [g1.t0, g1.f3, g1.f8, g1.f9, g1.c.P.t, g1.c.Q.t, true_and, x.t]
          refine t48 g1 (fun h2 f2 c2 l2 ct2 g2 => ?_)
          show _ ∧ _
          simp only [g2.t0, g2.f9, c2.P.t, true_and]
          refine c63 c2 l2 zw.1 zw.2 (by omega) (by omega) (Or.inr rfl) (fun h3 f3 c3 l3 => ?_)
          have g3 := g2.tw f3 ⟨_, c3.P⟩
          have hq := g.qd
          show _ ∧ _
          simp only [g3.t0, g3.f9, c3.P.t, true_and]
          refine c66 c3 l3 (ct2.fr c2.Q f3 (by omega)) (by omega) (by rw [su_ne (by omega)]; omega) (hb_su g.hb (by decide) (by decide)) (fun h4 f4 c4 l4 hb4 => ?_)
          have g4 := g3.tw f4 ⟨_, c4.P⟩
          have f04 : Fr 44 9 h h4 := f.tr (f2.tr (f3.tr f4))
          show _ ∧ _
          simp only [g4.t0, g4.f9, c4.P.t, true_and]
          refine c57 c4 zw.1 (by omega) ?_
          show _ ∧ _
          refine ⟨fun z5 => ?_, fun z5 => ?_⟩
          · rw [if_pos ⟨z7, z9, z5⟩] at G
            simp only [g4.t0, g4.f9, c4.P.t, true_and]
            exact c57 c4 zw.1 (by omega) (G h4 f04 g4)
          · rw [if_neg (fun z => z5 z.2.2)] at G
            exact G h4 f04 g4
        · rw [if_neg (fun z => z9 z.2.1)] at G
          exact G h1 f g1
      · rw [if_neg z7]
        rw [if_neg (fun z => z7 z.1)] at G
        exact ⟨fun _ => G h1 f g1, fun z => absurd rfl z⟩
  obtain ⟨q2, x⟩ := g.tr
  simp only [g.t0, g.f3, g.f8, g.f9, g.c.P.t, g.c.Q.t, true_and, x.t]
  refine t48 g (fun h2 f2 c2 l2 ct2 g2 => ?_)
  show _ ∧ _
  simp only [g2.t0, g2.f9, c2.P.t, true_and]
  refine c66 c2 l2 ct2 (by omega) (by omega) g.hb (fun h3 f3 c3 l3 hb3 => ?_)
  have g3 := g2.tw f3 ⟨_, c3.P⟩
  show _ ∧ _
  simp only [g3.t0, g3.f9, c3.P.t, true_and]
  refine c57 c3 zw.1 (by omega) ?_
  exact H _ 0 (Nat.zero_add _) h3 (f2.tr f3) g3
theorem c124 {d : Nat} {h : AH} {pp ss : TT} {tt : Int → List Op} {tp : Int → Int} {tl er q dq n : Int} {K : AK} (g : GC h pp ss tt tl tp er q dq) (hy : ss 0 0 + 100 < 2000000000) (k0 : 1 ≤ n ∧ n ≤ 20 → ∀ h2, Fr 35 18 h h2 → GC h2 pp ss tt tl tp er q dq → K 0 (s_sp pp ss tt n.toNat (pp 1 0).toNat).1 h2) (k2 : ¬ (1 ≤ n ∧ n ≤ 20) → ∀ h2, Fr 35 18 h h2 → GC h2 pp ss tt tl tp er q dq → K 2 0 h2) : am_call (d + 9) 124 [(2, 0), (0, n)] h K := by
  have y0 := g.c.S.yr
  have np := g.c.I.np
  refine v124 ⟨fun z1 => ⟨⟨Nat.le_refl _, Nat.le_refl _⟩, fun m hm => k2 (by omega) _ (Fr.rf.sn hm) (g.sn hm)⟩, fun z1 => ⟨fun z2 => ⟨⟨Nat.le_refl _, Nat.le_refl _⟩, fun m hm => k2 (by omega) _ (Fr.rf.sn hm) (g.sn hm)⟩, fun z2 => ?_⟩⟩
  suffices H : ∀ j : Nat, ∀ i : Nat, i + j = (pp 1 0).toNat → ∀ h1, Fr 44 9 h h1 → GC h1 pp ss tt tl tp er q dq → WP (d + 9) 124 (28, [(2, 0), (0, n), (0, (s_sp pp ss tt n.toNat i).1), (0, (s_sp pp ss tt n.toNat i).2), (0, (i : Int))], [], h1, 0, 0) K from H _ 0 (Nat.zero_add _) h Fr.rf g
  intro j
  induction j with
  | zero =>
    intro i hij h1 f g1
    refine v124_28 ?_
    simp only [g1.t0, g1.f3, g1.f8, g1.f9, g1.c.P.t, g1.c.Q.t, true_and, g1.c.np]
    refine ⟨fun z => absurd z (by omega), fun _ => ?_⟩
    have k1 := k0 ⟨by omega, by omega⟩ h1 (f.wide (by decide) (by decide)) g1
    rw [show (pp 1 0).toNat = i by omega] at k1
    exact k1
  | succ j ih =>
    intro i hij h1 f g1
    have G := ih (i + 1) (by omega)
    have es : s_sp pp ss tt n.toNat (i + 1) = if ss 7 (i : Int) = -1 ∧ (s_sp pp ss tt n.toNat i).2 < s_bc pp (s_ys pp tt (i : Int) n.toNat ss) then ((i : Int), s_bc pp (s_ys pp tt (i : Int) n.toNat ss)) else s_sp pp ss tt n.toNat i := rfl
    rw [es] at G
    generalize s_sp pp ss tt n.toNat i = r at G ⊢
    refine v124_28 ?_
    simp only [g1.t0, g1.f3, g1.f8, g1.f9, g1.c.P.t, g1.c.Q.t, true_and, g1.c.np]
    refine ⟨fun _ => c58 g1.c (by omega) (by omega) ?_, fun z => absurd (show (i : Int) < pp 1 0 by omega) z⟩
    show _ ∧ _
    rw [w32_nat (by omega)]
    by_cases z7 : ss 7 (i : Int) = -1
    · rw [if_pos z7]
      refine ⟨fun z => absurd z (by decide), fun _ => ?_⟩
      obtain ⟨q2, x⟩ := g1.tr
      simp only [g1.t0, g1.f3, g1.f8, g1.f9, g1.c.P.t, g1.c.Q.t, true_and, x.t]
      refine t48 g1 (fun h2 f2 c2 l2 ct2 g2 => ?_)
      have c3 := c2.wx (b := 44) (i := 2) (v := (i : Int)) (Or.inr (Or.inr ⟨rfl, Or.inr rfl⟩))
      have f3 : Fr 44 9 h2 (am_w h2 44 2 (i : Int)) := Fr.rf.w (by decide) (by decide)
      have g3 := g2.tw f3 ⟨_, c3.P⟩
      have hq := g.qd
      show _ ∧ _
      simp only [g2.t0, g2.f9, c2.P.t, true_and]
      simp only [g3.t0, g3.f9, c3.P.t, true_and]
      refine c66 (lo := (i : Int)) c3 (by rw [am_m_w, if_pos ⟨rfl, rfl⟩]) (ct2.fr c2.Q f3 (by omega)) (by omega) (by omega) g.hb (fun h4 f4 c4 l4 hb4 => ?_)
      have g4 := g3.tw f4 ⟨_, c4.P⟩
      have f04 : Fr 44 9 h h4 := f.tr (f2.tr (f3.tr f4))
      show _ ∧ _
      simp only [g4.t0, g4.f9, c4.P.t, true_and]
      refine c51 c4 ?_
      show _ ∧ _
      refine ⟨fun z5 => ?_, fun z5 => ?_⟩
      · rw [if_pos ⟨z7, z5⟩] at G
        simp only [g4.t0, g4.f9, c4.P.t, true_and]
        exact c51 c4 (G h4 f04 g4)
      · rw [if_neg (fun z => z5 z.2)] at G
        exact G h4 f04 g4
    · rw [if_neg z7]
      rw [if_neg (fun z => z7 z.1)] at G
      exact ⟨fun _ => G h1 f g1, fun z => absurd rfl z⟩
