/-! ===== buying ===== -/
def s_b1 (ss : TT) (p sh : Int) (r : Int × TT) (v : Int) : Int × TT :=
  if ss 9 (12 * v + p) = 0 then r
  else if min sh (r.2 4 v) = sh ∧ 0 < r.1 then (r.1 + (-1), su (su r.2 4 v (r.2 4 v - (min sh (r.2 4 v) + (-1)))) 5 v (w32 (r.2 5 v + (min sh (r.2 4 v) + (-1)))))
  else (r.1, su (su r.2 4 v (r.2 4 v - min sh (r.2 4 v))) 5 v (w32 (r.2 5 v + min sh (r.2 4 v))))
def s_bf (ss : TT) (p sh bk : Int) : Nat → Int × TT
  | 0 => (bk, ss)
  | n + 1 => s_b1 ss p sh (s_bf ss p sh bk n) (n : Int)
theorem s_bf_succ {ss : TT} {p sh bk : Int} {n : Nat} : s_bf ss p sh bk (n + 1) = s_b1 ss p sh (s_bf ss p sh bk n) (n : Int) := rfl
theorem s_b1_ne {ss : TT} {p sh v i : Int} {r : Int × TT} {k : Nat} (h4 : k ≠ 4) (h5 : k ≠ 5) : (s_b1 ss p sh r v).2 k i = r.2 k i := by
  unfold s_b1
  split
  · rfl
  · split
    · exact (su_ne (fun z => h5 z.1)).trans (su_ne (fun z => h4 z.1))
    · exact (su_ne (fun z => h5 z.1)).trans (su_ne (fun z => h4 z.1))
theorem s_bf_ne {ss : TT} {p sh bk i : Int} {k : Nat} (h4 : k ≠ 4) (h5 : k ≠ 5) : ∀ n : Nat, (s_bf ss p sh bk n).2 k i = ss k i
  | 0 => rfl
  | n + 1 => (s_b1_ne h4 h5).trans (s_bf_ne h4 h5 n)
noncomputable def s_buy (pp ss : TT) (p : Int) : TT := s_bld (su (s_bf ss p (s_sh pp ss p) (s_tg pp ss p (s_sh pp ss p) - ss 6 p) (pp 2 0).toNat).2 8 p 1) p
theorem s_buy_ne {pp ss : TT} {p i : Int} {k : Nat} (h3 : k = 0 ∨ k = 1 ∨ k = 2 ∨ k = 6 ∨ k = 9 ∨ (k = 7 ∧ i ≠ p)) : s_buy pp ss p k i = ss k i := (s_bld_ne (by omega) (by omega)).trans ((su_ne (by omega)).trans (s_bf_ne (by omega) (by omega) _))
theorem s_buy_7 {pp ss : TT} {p : Int} : s_buy pp ss p 7 p = ss 0 0 := s_bld_7.trans ((su_ne (by omega)).trans (s_bf_ne (by omega) (by omega) _))
theorem sh_bd {pp ss : TT} {p : Int} (hI : PI pp) (hS : SI pp ss) (h0 : 0 ≤ p) (h1 : p < pp 1 0) (hs : s_sh pp ss p ≠ -1) : (1 ≤ s_sh pp ss p ∧ s_sh pp ss p ≤ 9999) ∧ ss 6 p ≤ s_tg pp ss p (s_sh pp ss p) := by
  have cb := hS.cost h0 h1
  by_cases z : s_tg pp ss p 9999 < ss 6 p
  · exact absurd (by unfold s_sh; rw [if_pos z]) hs
  · obtain ⟨t, e, t0, t1, t2, _⟩ := s_sh_spec z cb.1
    rw [e]
    exact ⟨⟨t0, t1⟩, t2⟩
theorem tg_bd {pp ss : TT} {p x : Int} (hI : PI pp) (hS : SI pp ss) (hx : 0 ≤ x ∧ x ≤ 9999) (n : Nat) (hn : n ≤ (pp 2 0).toNat) : 0 ≤ sm (f_tg ss p x) n ∧ sm (f_tg ss p x) n ≤ 120000 := by
  have nv := hI.nv
  have := sm_bd (f := f_tg ss p x) (B := 9999) (n := n) (fun j hj => by
    have := hS.purse (i := (j : Int)) (by omega) (by omega)
    unfold f_tg
    split <;> omega)
  omega
theorem c71 {d : Nat} {h : AH} {a q p lo : Int} {pp ss : TT} {K : AK} (c : CC h a q pp ss) (cy : CY h a pp ss lo) (h0 : 0 ≤ p) (h1 : p < pp 1 0) (hz : ss 7 p = -1) (hs : s_sh pp ss p ≠ -1) (k : ∀ h2, Fr a 9 h h2 → CC h2 a q pp (s_buy pp ss p) → CY h2 a pp (s_buy pp ss p) lo → K 0 0 h2) : am_call (d + 1) 71 [(2, a), (0, p), (0, s_sh pp ss p)] h K := by
  have np := c.I.np
  have nv := c.I.nv
  have cb := c.S.cost h0 h1
  have sb := sh_bd c.I c.S h0 h1 hs
  have e0 := c.cost h0 h1
  have hI := c.I
  have hS := c.S
  have hc := c
  unfold s_buy at k
  generalize hsh : s_sh pp ss p = sh at sb k ⊢
  have H2 : ∀ j : Nat, ∀ i : Nat, i + j = (pp 2 0).toNat → ∀ h1 y5, Fr a 9 h h1 → CC h1 a q pp (s_bf ss p sh (s_tg pp ss p sh - ss 6 p) i).2 → CY h1 a pp ss lo → (0 ≤ (s_bf ss p sh (s_tg pp ss p sh - ss 6 p) i).1 ∧ (s_bf ss p sh (s_tg pp ss p sh - ss 6 p) i).1 ≤ 120000) → WP (d + 1) 71 (56, [(2, a), (0, p), (0, sh), (0, (s_bf ss p sh (s_tg pp ss p sh - ss 6 p) i).1), (0, (i : Int)), y5], [], h1, 0, 0) K := by
    intro j
    induction j with
    | zero =>
      intro i hij h2 y5 f c cy zb
      refine v71_56 ?_
      simp only [c.P.t, c.P.f5, c.P.f3, c.P.t1, c.P.l1, c.P.f4, c.P.t2, c.P.l2, c.P.f8, c.P.t3, c.P.l3, c.P.f9, c.P.t4, c.P.l4, c.P.f10, c.P.t5, c.P.l5, c.P.f11, c.P.t6, c.P.l6, c.P.f12, c.P.t7, c.P.l7, c.P.f13, c.P.t8, c.P.l8, c.Q.t, c.Q.f6, c.Q.t1, c.Q.l1, c.Q.f7, c.Q.t2, c.Q.l2, c.Q.f8, c.Q.t3, c.Q.l3, c.Q.f9, c.Q.t4, c.Q.l4, c.Q.f10, c.Q.t5, c.Q.l5, c.Q.f11, c.Q.t6, c.Q.l6, c.Q.f12, c.Q.t7, c.Q.l7, c.Q.f13, c.Q.t8, c.Q.l8, c.Q.f14, c.Q.t9, c.Q.l9, c.nw, c.np, c.nv, c.nb, c.yr, c.bud, c.pot, c.pd, true_and]
      refine ⟨fun z => absurd z (by omega), fun _ => ⟨⟨h0, by omega⟩, v71_144 ⟨c.P.t, ?_⟩⟩⟩
      have c2 := c.u8 (i := p) (v := 1) (c.S.u8 (Or.inr rfl))
      rw [show (pp 2 0).toNat = i by omega] at k
      have q7 : ∀ o, su (s_bf ss p sh (s_tg pp ss p sh - ss 6 p) i).2 8 p 1 7 o = ss 7 o := fun o => (su_ne (by omega)).trans (s_bf_ne (by decide) (by decide) i)
      have q0 : su (s_bf ss p sh (s_tg pp ss p sh - ss 6 p) i).2 8 p 1 0 0 = ss 0 0 := (su_ne (by omega)).trans (s_bf_ne (by decide) (by decide) i)
      exact c72 c2 ((cy.w (by omega) (by omega)).cg q7 q0) h0 h1 ((q7 p).trans hz) (fun h3 f3 c3 cy3 => v71_149 (k h3 ((f.w (by omega) (by omega)).tr f3) c3 cy3))
    | succ j ih =>
      intro i hij h2 y5 f c cy zb
      have go : ∀ z y, s_bf ss p sh (s_tg pp ss p sh - ss 6 p) (i + 1) = (z, su (su (s_bf ss p sh (s_tg pp ss p sh - ss 6 p) i).2 4 (i : Int) ((s_bf ss p sh (s_tg pp ss p sh - ss 6 p) i).2 4 (i : Int) - y)) 5 (i : Int) (w32 ((s_bf ss p sh (s_tg pp ss p sh - ss 6 p) i).2 5 (i : Int) + y))) → (0 ≤ z ∧ z ≤ 120000) → (0 ≤ y ∧ y ≤ (s_bf ss p sh (s_tg pp ss p sh - ss 6 p) i).2 4 (i : Int)) → WP (d + 1) 71 (119, [(2, a), (0, p), (0, sh), (0, z), (0, (i : Int)), (0, y)], [], am_w h2 (a + 1) (i : Int) (w32 ((s_bf ss p sh (s_tg pp ss p sh - ss 6 p) i).2 4 (i : Int) - y)), 0, 0) K := fun z y hzy zb yb => by
        have bp := c.S.purse (i := (i : Int)) (by omega) (by omega)
        have G := ih (i + 1) (by omega)
        rw [hzy] at G
        generalize (s_bf ss p sh (s_tg pp ss p sh - ss 6 p) i).2 = sx at c bp yb G ⊢
        rw [w32_id (x := sx 4 (i : Int) - y) (by omega) (by omega)]
        have c2 := c.u4 (i := (i : Int)) (v := sx 4 (i : Int) - y) (c.S.u4 ⟨by omega, by omega⟩)
        have e5 := c2.gave (i := (i : Int)) (by omega) (by omega)
        have q5 : su sx 4 (i : Int) (sx 4 (i : Int) - y) 5 (i : Int) = sx 5 (i : Int) := su_ne (by omega)
        refine v71_119 ?_
        simp only [c2.P.t, c2.P.f5, c2.P.f3, c2.P.t1, c2.P.l1, c2.P.f4, c2.P.t2, c2.P.l2, c2.P.f8, c2.P.t3, c2.P.l3, c2.P.f9, c2.P.t4, c2.P.l4, c2.P.f10, c2.P.t5, c2.P.l5, c2.P.f11, c2.P.t6, c2.P.l6, c2.P.f12, c2.P.t7, c2.P.l7, c2.P.f13, c2.P.t8, c2.P.l8, c2.Q.t, c2.Q.f6, c2.Q.t1, c2.Q.l1, c2.Q.f7, c2.Q.t2, c2.Q.l2, c2.Q.f8, c2.Q.t3, c2.Q.l3, c2.Q.f9, c2.Q.t4, c2.Q.l4, c2.Q.f10, c2.Q.t5, c2.Q.l5, c2.Q.f11, c2.Q.t6, c2.Q.l6, c2.Q.f12, c2.Q.t7, c2.Q.l7, c2.Q.f13, c2.Q.t8, c2.Q.l8, c2.Q.f14, c2.Q.t9, c2.Q.l9, c2.nw, c2.np, c2.nv, c2.nb, c2.yr, c2.bud, c2.pot, c2.pd, e5, q5, true_and]
        refine ⟨⟨by omega, by omega⟩, ⟨by omega, by omega⟩, v71_131 ?_⟩
        rw [w32_nat (by omega)]
        exact G _ _ ((f.w (by omega) (by omega)).w (by omega) (by omega)) (c2.u5 c2.S.u5) ((cy.w (by omega) (by omega)).w (by omega) (by omega)) zb
      have st := ih (i + 1) (by omega) h2 y5 f
      have ef : (s_bf ss p sh (s_tg pp ss p sh - ss 6 p) i).2 9 (12 * (i : Int) + p) = ss 9 (12 * (i : Int) + p) := s_bf_ne (by decide) (by decide) i
      rw [s_bf_succ] at st go
      unfold s_b1 at st go
      have bp := c.S.purse (i := (i : Int)) (by omega) (by omega)
      have e4 := c.purse (i := (i : Int)) (by omega) (by omega)
      generalize (s_bf ss p sh (s_tg pp ss p sh - ss 6 p) i) = r at c bp zb ef st go e4 ⊢
      refine v71_56 ?_
      simp only [c.P.t, c.P.f5, c.P.f3, c.P.t1, c.P.l1, c.P.f4, c.P.t2, c.P.l2, c.P.f8, c.P.t3, c.P.l3, c.P.f9, c.P.t4, c.P.l4, c.P.f10, c.P.t5, c.P.l5, c.P.f11, c.P.t6, c.P.l6, c.P.f12, c.P.t7, c.P.l7, c.P.f13, c.P.t8, c.P.l8, c.Q.t, c.Q.f6, c.Q.t1, c.Q.l1, c.Q.f7, c.Q.t2, c.Q.l2, c.Q.f8, c.Q.t3, c.Q.l3, c.Q.f9, c.Q.t4, c.Q.l4, c.Q.f10, c.Q.t5, c.Q.l5, c.Q.f11, c.Q.t6, c.Q.l6, c.Q.f12, c.Q.t7, c.Q.l7, c.Q.f13, c.Q.t8, c.Q.l8, c.Q.f14, c.Q.t9, c.Q.l9, c.nw, c.np, c.nv, c.nb, c.yr, c.bud, c.pot, c.pd, true_and]
      refine ⟨fun _ => c59 c (by omega) (by omega) h0 h1 (v71_75 ?_), fun z => absurd (show (i : Int) < pp 2 0 by omega) z⟩
      simp only [c.P.t, c.P.f5, c.P.f3, c.P.t1, c.P.l1, c.P.f4, c.P.t2, c.P.l2, c.P.f8, c.P.t3, c.P.l3, c.P.f9, c.P.t4, c.P.l4, c.P.f10, c.P.t5, c.P.l5, c.P.f11, c.P.t6, c.P.l6, c.P.f12, c.P.t7, c.P.l7, c.P.f13, c.P.t8, c.P.l8, c.Q.t, c.Q.f6, c.Q.t1, c.Q.l1, c.Q.f7, c.Q.t2, c.Q.l2, c.Q.f8, c.Q.t3, c.Q.l3, c.Q.f9, c.Q.t4, c.Q.l4, c.Q.f10, c.Q.t5, c.Q.l5, c.Q.f11, c.Q.t6, c.Q.l6, c.Q.f12, c.Q.t7, c.Q.l7, c.Q.f13, c.Q.t8, c.Q.l8, c.Q.f14, c.Q.t9, c.Q.l9, c.nw, c.np, c.nv, c.nb, c.yr, c.bud, c.pot, c.pd, ef, e4, true_and]
      refine ⟨fun z => ?_, fun z => ⟨⟨by omega, by omega⟩, fun z2 => ⟨fun z3 => ⟨⟨by omega, by omega⟩, ⟨by omega, by omega⟩, ?_⟩, fun z3 => ⟨⟨by omega, by omega⟩, ⟨by omega, by omega⟩, ?_⟩⟩, fun z2 => ⟨⟨by omega, by omega⟩, ⟨by omega, by omega⟩, ?_⟩⟩⟩
      · rw [if_pos z] at st
        refine v71_131 ?_
        rw [w32_nat (by omega)]
        exact st c cy zb
      · rw [if_neg z, if_pos ⟨z2, z3⟩] at go
        rw [w32_id (x := r.1 + (-1)) (by omega) (by omega), w32_id (x := min sh (r.2 4 (i : Int)) + (-1)) (by omega) (by omega)]
        exact go _ _ rfl (by omega) (by omega)
      · rw [if_neg z, if_neg (fun z4 => z3 z4.2)] at go
        exact go _ _ rfl (by omega) (by omega)
      · rw [if_neg z, if_neg (fun z4 => z2 z4.1)] at go
        exact go _ _ rfl (by omega) (by omega)
  have H1 : ∀ j : Nat, ∀ i : Nat, i + j = (pp 2 0).toNat → ∀ y5, WP (d + 1) 71 (11, [(2, a), (0, p), (0, sh), (0, sm (f_tg ss p sh) i - ss 6 p), (0, (i : Int)), y5], [], h, 0, 0) K := by
    intro j
    induction j with
    | zero =>
      intro i hij y5
      refine v71_11 ?_
      simp only [c.P.t, c.P.f5, c.P.f3, c.P.t1, c.P.l1, c.P.f4, c.P.t2, c.P.l2, c.P.f8, c.P.t3, c.P.l3, c.P.f9, c.P.t4, c.P.l4, c.P.f10, c.P.t5, c.P.l5, c.P.f11, c.P.t6, c.P.l6, c.P.f12, c.P.t7, c.P.l7, c.P.f13, c.P.t8, c.P.l8, c.Q.t, c.Q.f6, c.Q.t1, c.Q.l1, c.Q.f7, c.Q.t2, c.Q.l2, c.Q.f8, c.Q.t3, c.Q.l3, c.Q.f9, c.Q.t4, c.Q.l4, c.Q.f10, c.Q.t5, c.Q.l5, c.Q.f11, c.Q.t6, c.Q.l6, c.Q.f12, c.Q.t7, c.Q.l7, c.Q.f13, c.Q.t8, c.Q.l8, c.Q.f14, c.Q.t9, c.Q.l9, c.nw, c.np, c.nv, c.nb, c.yr, c.bud, c.pot, c.pd, true_and]
      refine ⟨fun z => absurd z (by omega), fun _ => ?_⟩
      have tb := tg_bd (p := p) hI hS (x := sh) (by omega) i (by omega)
      have G := H2 _ 0 (Nat.zero_add _) h y5 Fr.rf c cy
      have et : s_tg pp ss p sh = sm (f_tg ss p sh) i := by
        unfold s_tg
        rw [show (pp 2 0).toNat = i by omega]
      have sb2 := sb.2
      rw [et] at G sb2
      exact G ⟨show 0 ≤ sm (f_tg ss p sh) i - ss 6 p by omega, show sm (f_tg ss p sh) i - ss 6 p ≤ 120000 by omega⟩
    | succ j ih =>
      intro i hij y5
      have tb := tg_bd (p := p) hI hS (x := sh) (by omega) (i + 1) (by omega)
      have ta := tg_bd (p := p) hI hS (x := sh) (by omega) i (by omega)
      have G := ih (i + 1) (by omega) y5
      have e4 := c.purse (i := (i : Int)) (by omega) (by omega)
      have bp := c.S.purse (i := (i : Int)) (by omega) (by omega)
      have es : sm (f_tg ss p sh) (i + 1) = sm (f_tg ss p sh) i + f_tg ss p sh (i : Int) := rfl
      rw [es] at tb G
      unfold f_tg at tb G
      unfold f_tg at ta
      refine v71_11 ?_
      simp only [c.P.t, c.P.f5, c.P.f3, c.P.t1, c.P.l1, c.P.f4, c.P.t2, c.P.l2, c.P.f8, c.P.t3, c.P.l3, c.P.f9, c.P.t4, c.P.l4, c.P.f10, c.P.t5, c.P.l5, c.P.f11, c.P.t6, c.P.l6, c.P.f12, c.P.t7, c.P.l7, c.P.f13, c.P.t8, c.P.l8, c.Q.t, c.Q.f6, c.Q.t1, c.Q.l1, c.Q.f7, c.Q.t2, c.Q.l2, c.Q.f8, c.Q.t3, c.Q.l3, c.Q.f9, c.Q.t4, c.Q.l4, c.Q.f10, c.Q.t5, c.Q.l5, c.Q.f11, c.Q.t6, c.Q.l6, c.Q.f12, c.Q.t7, c.Q.l7, c.Q.f13, c.Q.t8, c.Q.l8, c.Q.f14, c.Q.t9, c.Q.l9, c.nw, c.np, c.nv, c.nb, c.yr, c.bud, c.pot, c.pd, true_and]
      refine ⟨fun _ => c59 c (by omega) (by omega) h0 h1 (v71_30 ?_), fun z => absurd (show (i : Int) < pp 2 0 by omega) z⟩
      simp only [c.P.t, c.P.f5, c.P.f3, c.P.t1, c.P.l1, c.P.f4, c.P.t2, c.P.l2, c.P.f8, c.P.t3, c.P.l3, c.P.f9, c.P.t4, c.P.l4, c.P.f10, c.P.t5, c.P.l5, c.P.f11, c.P.t6, c.P.l6, c.P.f12, c.P.t7, c.P.l7, c.P.f13, c.P.t8, c.P.l8, c.Q.t, c.Q.f6, c.Q.t1, c.Q.l1, c.Q.f7, c.Q.t2, c.Q.l2, c.Q.f8, c.Q.t3, c.Q.l3, c.Q.f9, c.Q.t4, c.Q.l4, c.Q.f10, c.Q.t5, c.Q.l5, c.Q.f11, c.Q.t6, c.Q.l6, c.Q.f12, c.Q.t7, c.Q.l7, c.Q.f13, c.Q.t8, c.Q.l8, c.Q.f14, c.Q.t9, c.Q.l9, c.nw, c.np, c.nv, c.nb, c.yr, c.bud, c.pot, c.pd, e4, true_and]
      unfold f_tg
      refine ⟨fun z => ?_, fun z => ⟨⟨by omega, by omega⟩, ?_⟩⟩
      · rw [if_pos z] at G
        rw [w32_nat (by omega)]
        rw [Int.add_zero] at G
        exact G
      · rw [if_neg z] at G
        rw [w32_nat (by omega), w32_id (by omega) (by omega), show ∀ x y z : Int, x - y + z = x + z - y from fun x y z => by omega]
        exact G
  refine v71 ?_
  simp only [c.P.t, c.P.f5, c.P.f3, c.P.t1, c.P.l1, c.P.f4, c.P.t2, c.P.l2, c.P.f8, c.P.t3, c.P.l3, c.P.f9, c.P.t4, c.P.l4, c.P.f10, c.P.t5, c.P.l5, c.P.f11, c.P.t6, c.P.l6, c.P.f12, c.P.t7, c.P.l7, c.P.f13, c.P.t8, c.P.l8, c.Q.t, c.Q.f6, c.Q.t1, c.Q.l1, c.Q.f7, c.Q.t2, c.Q.l2, c.Q.f8, c.Q.t3, c.Q.l3, c.Q.f9, c.Q.t4, c.Q.l4, c.Q.f10, c.Q.t5, c.Q.l5, c.Q.f11, c.Q.t6, c.Q.l6, c.Q.f12, c.Q.t7, c.Q.l7, c.Q.f13, c.Q.t8, c.Q.l8, c.Q.f14, c.Q.t9, c.Q.l9, c.nw, c.np, c.nv, c.nb, c.yr, c.bud, c.pot, c.pd, e0, true_and]
  rw [w32_id (x := -ss 6 p) (by omega) (by omega)]
  have G := H1 _ 0 (Nat.zero_add _) (9, 0)
  rw [show sm (f_tg ss p sh) 0 - ss 6 p = -ss 6 p from by show 0 - ss 6 p = _; omega] at G
  exact ⟨⟨h0, by omega⟩, G⟩