/-! ===== by hand: the reference ===== -/
theorem flip_rg {x n : Int} (h0 : 0 ≤ x) (h1 : x < 4096) (n0 : 0 ≤ n) (n1 : n < 12) : 0 ≤ am_xor x (am_shl 1 n) ∧ am_xor x (am_shl 1 n) < 4096 := by
  obtain ⟨k, rfl⟩ : ∃ k : Nat, n = (k : Int) := ⟨n.toNat, by omega⟩
  show 0 ≤ (BitVec.ofInt 32 x ^^^ BitVec.ofInt 32 (sh1 (k : Int))).toInt ∧ (BitVec.ofInt 32 x ^^^ BitVec.ofInt 32 (sh1 (k : Int))).toInt < 4096
  refine bv_int ?_
  rw [BitVec.toNat_xor]
  exact Nat.xor_lt_two_pow (n := 12) (bv_nat h0 h1) (sh1_rg k (by omega))
theorem flip_bit {x n m : Int} (n0 : 0 ≤ n) (n1 : n < 12) (m0 : 0 ≤ m) (m1 : m < 12) : bt (am_xor x (am_shl 1 n)) m = if m = n then 1 - bt x m else bt x m := by
  obtain ⟨k, rfl⟩ : ∃ k : Nat, n = (k : Int) := ⟨n.toNat, by omega⟩
  obtain ⟨j, rfl⟩ : ∃ j : Nat, m = (j : Int) := ⟨m.toNat, by omega⟩
  rw [bt_bv (by omega), bt_bv (by omega)]
  show (if (BitVec.ofInt 32 (BitVec.ofInt 32 x ^^^ BitVec.ofInt 32 (sh1 (k : Int))).toInt).getLsbD j = true then (1 : Int) else 0) = _
  rw [BitVec.ofInt_toInt, BitVec.getLsbD_xor, sh1_bit k (by omega) j (by omega)]
  by_cases z : j = k
  · subst z
    cases (BitVec.ofInt 32 x).getLsbD j <;> simp
  · have z2 : ¬ (j : Int) = (k : Int) := by omega
    simp [z, z2]
theorem th1 {h : AH} {v : Int} : am_m (am_w h 53 0 v) 53 0 = v := by rw [am_m_w, if_pos ⟨rfl, rfl⟩]
theorem c212 {d : Nat} {h : AH} {pp ss : TT} {tt : Int → List Op} {tp : Int → Int} {tl er q v p : Int} {K : AK} (g : GM h pp ss tt tl tp er q) (k0 : (0 ≤ v ∧ v < pp 2 0) ∧ 0 ≤ p ∧ p < pp 1 0 → ∀ h2, Fr 53 34 h h2 → GT h2 pp ss tt tl tp er q 0 → K 0 (ss 9 (12 * v + p)) h2) (k1 : ¬ ((0 ≤ v ∧ v < pp 2 0) ∧ 0 ≤ p ∧ p < pp 1 0) → ∀ h2, Fr 53 34 h h2 → GT h2 pp ss tt tl tp er q 1 → K 0 0 h2) : am_call (d + 2) 212 [(2, 53), (0, v), (0, p)] h K := by
  have np := g.c.I.np
  refine v212 ⟨g.c.M.t, c157 g ⟨fun z => ⟨g.c.M.t, g.c.M.t, fun z2 => absurd z2 (by rw [th1]; decide), fun _ => ⟨Or.inl rfl, k1 (fun y => if1 z y.1) _ f0 g.t0⟩⟩, fun z => ⟨g.c.M.t, c156 g ⟨fun z3 => ⟨g.c.M.t, g.c.M.t, fun z2 => absurd z2 (by rw [th1]; decide), fun _ => ⟨Or.inl rfl, k1 (fun y => if1 z3 y.2) _ f0 g.t0⟩⟩, fun z3 => ⟨g.c.M.t, g.c.M.t, fun _ => ?_, fun z2 => absurd th1 z2⟩⟩⟩⟩⟩
  have g1 := (g.t0 (v := 0)).1
  have zp := if0 z3
  have k2 := k0 ⟨if0 z, zp⟩ _ f0 g.t0
  simp only [g1.c.M.t, g1.c.M.f14, g1.c.B.t, true_and]
  refine c132 g1.c (if0 z).1 (if0 z).2 zp.1 (by omega) ?_
  show _ ∧ _
  have fa := g.c.S.fan (12 * v + p)
  refine ⟨fun z4 => ⟨Or.inl trivial, ?_⟩, fun z4 => ⟨Or.inr trivial, ?_⟩⟩
  · rw [z4] at k2
    exact k2
  · rw [fa.resolve_left z4] at k2
    exact k2
theorem su_id {ss : TT} {k : Nat} {i x : Int} (e : ss k i = x) : su ss k i x = ss := by
  funext k2 i2
  by_cases z : k2 = k ∧ i2 = i
  · obtain ⟨z1, z2⟩ := z
    subst z1
    subst z2
    rw [su_eq, e]
  · exact su_ne z
theorem c216 {d : Nat} {h : AH} {pp ss : TT} {tt : Int → List Op} {tp : Int → Int} {tl er q v p x : Int} {K : AK} (g : GM h pp ss tt tl tp er q) (hx : x = 0 ∨ x = 1) (k0 : (0 ≤ v ∧ v < pp 2 0) ∧ 0 ≤ p ∧ p < pp 1 0 → ∀ h2, Fr 53 34 h h2 → GT h2 pp (su ss 9 (12 * v + p) x) tt tl tp er q 0 → K 0 (ss 9 (12 * v + p)) h2) (k1 : ¬ ((0 ≤ v ∧ v < pp 2 0) ∧ 0 ≤ p ∧ p < pp 1 0) → ∀ h2, Fr 53 34 h h2 → GT h2 pp ss tt tl tp er q 1 → K 0 0 h2) : am_call (d + 2) 216 [(2, 53), (0, v), (0, p), (0, x)] h K := by
  have np := g.c.I.np
  have nv := g.c.I.nv
  refine v216 ⟨g.c.M.t, c157 g ⟨fun z => ⟨g.c.M.t, g.c.M.t, fun z2 => absurd z2 (by rw [th1]; decide), fun _ => ⟨Or.inl rfl, k1 (fun y => if1 z y.1) _ f0 g.t0⟩⟩, fun z => ⟨g.c.M.t, c156 g ⟨fun z3 => ⟨g.c.M.t, g.c.M.t, fun z2 => absurd z2 (by rw [th1]; decide), fun _ => ⟨Or.inl rfl, k1 (fun y => if1 z3 y.2) _ f0 g.t0⟩⟩, fun z3 => ⟨g.c.M.t, g.c.M.t, fun _ => ?_, fun z2 => absurd th1 z2⟩⟩⟩⟩⟩
  have gt := g.t0 (v := 0)
  have g1 := gt.1
  have zv := if0 z
  have zp := if0 z3
  have fa := g.c.S.fan (12 * v + p)
  simp only [g1.c.M.t, g1.c.M.f14, g1.c.B.t, true_and]
  refine c132 g1.c zv.1 zv.2 zp.1 (by omega) ?_
  show _ ∧ _
  refine ⟨fun z4 => ⟨fa, ?_⟩, fun z4 => ?_⟩
  · have k2 := k0 ⟨zv, zp⟩ _ (f0 (v := 0))
    rw [su_id z4] at k2
    exact k2 gt
  · have fb := g1.c.fb zv.1 zv.2
    have fn := g1.c.fan zv.1 zv.2 zp.1 (show p < 12 by omega)
    simp only [g1.c.M.t, g1.c.M.f14, g1.c.B.t, true_and, g1.c.B.f5, g1.c.B.t3, g1.c.B.l3]
    have c2 := g1.c.u9 (y := am_xor (am_m (am_w h 53 0 0) (71 + 3) v) (am_shl 1 p)) zv.1 zv.2 zp.1 zp.2 hx (flip_rg fb.1 fb.2 zp.1 (by omega)) (fun m z5 z6 => by
      rw [flip_bit zp.1 (by omega) z5 z6]
      by_cases zm : m = p
      · subst zm
        rw [if_pos rfl, if_pos rfl]
        unfold bt
        rw [fn]
        omega
      · rw [if_neg zm, if_neg zm])
    have f2 : Fr 71 8 (am_w h 53 0 0) (am_w (am_w h 53 0 0) (71 + 3) v (am_xor (am_m (am_w h 53 0 0) (71 + 3) v) (am_shl 1 p))) := Fr.rf.w (by decide) (by decide)
    exact ⟨⟨zv.1, by omega⟩, ⟨zv.1, by omega⟩, fa, k0 ⟨zv, zp⟩ _ (f0.tr (f2.wide (by decide) (by decide))) (gt.sw f2 c2 (by rw [am_m_w, if_neg (by omega)]; exact g1.lo) (hb_su g.hb (by decide) (by decide)) (g.sb.su (by decide) (by decide)))⟩
theorem c217 {d : Nat} {h : AH} {pp ss : TT} {tt : Int → List Op} {tp : Int → Int} {tl er q v x : Int} {K : AK} (g : GM h pp ss tt tl tp er q) (k0 : (0 ≤ v ∧ v < pp 2 0) ∧ 1 ≤ x ∧ x ≤ 999 → ∀ h2, Fr 53 34 h h2 → GT h2 pp (su ss 4 v (min 9999 (ss 4 v + x))) tt tl tp er q 0 → K 0 (min 9999 (ss 4 v + x)) h2) (k2 : (0 ≤ v ∧ v < pp 2 0) ∧ ¬ (1 ≤ x ∧ x ≤ 999) → ∀ h2, Fr 53 34 h h2 → GT h2 pp ss tt tl tp er q 2 → K 0 0 h2) (k1 : ¬ (0 ≤ v ∧ v < pp 2 0) → ∀ h2, Fr 53 34 h h2 → GT h2 pp ss tt tl tp er q 1 → K 0 0 h2) : am_call (d + 2) 217 [(2, 53), (0, v), (0, x)] h K := by
  have nv := g.c.I.nv
  have gt := g.t0 (v := 0)
  have g1 := gt.1
  refine v217 ⟨g.c.M.t, g1.c.M.t, c157 g1 ⟨fun z => ⟨g1.c.M.t, c153 g1 (fun h2 f2 g2 => k1 (if1 z) h2 (f0.tr f2) g2)⟩, fun z => c154 ⟨fun z3 => ⟨g1.c.M.t, c153 g1 (fun h2 f2 g2 => k2 ⟨if0 z, if1 z3⟩ h2 (f0.tr f2) g2)⟩, fun z3 => ?_⟩⟩⟩
  have zv := if0 z
  have zx := if0 z3
  have pb := g1.c.S.purse zv.1 zv.2
  have e1 := g1.c.purse zv.1 zv.2
  simp only [g1.c.M.t, g1.c.M.f14, g1.c.B.t, true_and, g1.c.B.f3, g1.c.B.t1, g1.c.B.l1, e1]
  rw [w32_id (x := ss 4 v + x) (by omega) (by omega)]
  have c2 := g1.c.u4 (i := v) (v := min 9999 (ss 4 v + x)) (g1.c.S.u4 ⟨by omega, by omega⟩)
  have f2 : Fr 71 8 (am_w h 53 0 0) (am_w (am_w h 53 0 0) (71 + 1) v (min 9999 (ss 4 v + x))) := Fr.rf.w (by decide) (by decide)
  have e2 := c2.purse zv.1 zv.2
  rw [su_eq] at e2
  simp only [c2.M.t, c2.M.f12, c2.M.f14, c2.M.f15, c2.M.f1, c2.M.t1, c2.M.l1, c2.M.f5, c2.M.t2, c2.M.l2, c2.M.f6, c2.M.t3, c2.M.l3, c2.M.f7, c2.M.t4, c2.M.l4, c2.M.f8, c2.M.t5, c2.M.l5, c2.M.f9, c2.M.t6, c2.M.l6, c2.B.t, c2.B.f11, c2.B.f3, c2.B.t1, c2.B.l1, c2.B.f4, c2.B.t2, c2.B.l2, c2.B.f5, c2.B.t3, c2.B.l3, c2.B.f6, c2.B.t4, c2.B.l4, c2.B.f7, c2.B.t5, c2.B.l5, c2.B.f8, c2.B.t6, c2.B.l6, c2.B.f10, c2.B.t7, c2.B.l7, c2.Q.t, c2.Q.f1, c2.Q.t1, c2.Q.l1, c2.Q.f3, c2.Q.t2, c2.Q.l2, c2.Q.f4, c2.Q.t3, c2.Q.l3, c2.Q.f5, c2.Q.t4, c2.Q.l4, c2.Q.f7, c2.Q.t5, c2.Q.l5, c2.Q.f11, c2.Q.t6, c2.Q.l6, c2.Q.f12, c2.Q.t7, c2.Q.l7, c2.Q.f13, c2.Q.t8, c2.Q.l8, c2.Q.f14, c2.Q.t9, c2.Q.l9, c2.Q.f16, c2.Q.t10, c2.Q.l10, c2.nw, c2.np, c2.nv, c2.nb, c2.yr, c2.pot, c2.pd, c2.bud, e2, true_and]
  exact ⟨⟨zv.1, by omega⟩, ⟨zv.1, by omega⟩, ⟨zv.1, by omega⟩, k0 ⟨zv, zx⟩ _ (f0.tr (f2.wide (by decide) (by decide))) (gt.sw f2 c2 (by rw [am_m_w, if_neg (by omega)]; exact g1.lo) (hb_su g.hb (by decide) (by decide)) (g.sb.su (by decide) (by decide)))⟩
theorem c219 {d : Nat} {h : AH} {pp ss : TT} {tt : Int → List Op} {tp : Int → Int} {tl er q p : Int} {K : AK} (g : GM h pp ss tt tl tp er q) (k0 : (0 ≤ p ∧ p < pp 1 0) ∧ ss 7 p ≠ -1 → ∀ h2, Fr 53 34 h h2 → GT h2 pp (su (su ss 7 p (-1)) 8 p 0) tt tl tp er q 0 → K 0 (ss 7 p) h2) (k2 : (0 ≤ p ∧ p < pp 1 0) ∧ ss 7 p = -1 → ∀ h2, Fr 53 34 h h2 → GT h2 pp ss tt tl tp er q 2 → K 0 0 h2) (k1 : ¬ (0 ≤ p ∧ p < pp 1 0) → ∀ h2, Fr 53 34 h h2 → GT h2 pp ss tt tl tp er q 1 → K 0 0 h2) : am_call (d + 2) 219 [(2, 53), (0, p)] h K := by
  have np := g.c.I.np
  have y0 := g.c.S.yr
  have gt := g.t0 (v := 0)
  have g1 := gt.1
  refine v219 ⟨g.c.M.t, g1.c.M.t, c156 g1 ⟨fun z => ⟨g1.c.M.t, c153 g1 (fun h2 f2 g2 => k1 (if1 z) h2 (f0.tr f2) g2)⟩, fun z => ?_⟩⟩
  have zp := if0 z
  have e1 := g1.c.built zp.1 zp.2
  simp only [g1.c.M.t, g1.c.M.f14, g1.c.B.t, true_and, g1.c.B.f7, g1.c.B.t5, g1.c.B.l5, e1]
  refine ⟨⟨zp.1, by omega⟩, fun z3 => c153 g1 (fun h2 f2 g2 => k2 ⟨zp, z3⟩ h2 (f0.tr f2) g2), fun z3 => ?_⟩
  have c2 := g1.c.u7 (i := p) (v := -1) (g1.c.S.u7 ⟨by omega, by omega⟩)
  have c3 := c2.u8 (i := p) (v := 0) (c2.S.u8 (Or.inl rfl))
  have f2 : Fr 71 8 (am_w h 53 0 0) (am_w (am_w (am_w h 53 0 0) (71 + 5) p (-1)) (71 + 6) p 0) := (Fr.rf.w (by decide) (by decide)).w (by decide) (by decide)
  simp only [c2.M.t, c2.M.f12, c2.M.f14, c2.M.f15, c2.M.f1, c2.M.t1, c2.M.l1, c2.M.f5, c2.M.t2, c2.M.l2, c2.M.f6, c2.M.t3, c2.M.l3, c2.M.f7, c2.M.t4, c2.M.l4, c2.M.f8, c2.M.t5, c2.M.l5, c2.M.f9, c2.M.t6, c2.M.l6, c2.B.t, c2.B.f11, c2.B.f3, c2.B.t1, c2.B.l1, c2.B.f4, c2.B.t2, c2.B.l2, c2.B.f5, c2.B.t3, c2.B.l3, c2.B.f6, c2.B.t4, c2.B.l4, c2.B.f7, c2.B.t5, c2.B.l5, c2.B.f8, c2.B.t6, c2.B.l6, c2.B.f10, c2.B.t7, c2.B.l7, c2.Q.t, c2.Q.f1, c2.Q.t1, c2.Q.l1, c2.Q.f3, c2.Q.t2, c2.Q.l2, c2.Q.f4, c2.Q.t3, c2.Q.l3, c2.Q.f5, c2.Q.t4, c2.Q.l4, c2.Q.f7, c2.Q.t5, c2.Q.l5, c2.Q.f11, c2.Q.t6, c2.Q.l6, c2.Q.f12, c2.Q.t7, c2.Q.l7, c2.Q.f13, c2.Q.t8, c2.Q.l8, c2.Q.f14, c2.Q.t9, c2.Q.l9, c2.Q.f16, c2.Q.t10, c2.Q.l10, c2.nw, c2.np, c2.nv, c2.nb, c2.yr, c2.pot, c2.pd, c2.bud, true_and]
  refine ⟨⟨zp.1, by omega⟩, ⟨zp.1, by omega⟩, k0 ⟨zp, z3⟩ _ (f0.tr (f2.wide (by decide) (by decide))) (gt.sw f2 c3 (by rw [am_m_w, if_neg (by omega), am_m_w, if_neg (by omega)]; exact g1.lo) (fun o z1 z2 => ?_) (fun o z1 z2 z3 => ?_))⟩
  · rw [su_ne (k' := 7) (by omega), su_ne (k' := 0) (by omega), su_ne (k' := 0) (by omega)]
    by_cases zz : o = p
    · subst zz
      rw [su_eq]
      omega
    · rw [su_ne (by omega)]
      exact g.hb o z1 z2
  · by_cases zz : o = p
    · subst zz
      rw [su_eq] at z3
      exact absurd z3 (by decide)
    · rw [su_ne (by omega), su_ne (by omega)] at z3 ⊢
      exact g.sb o z1 z2 z3
