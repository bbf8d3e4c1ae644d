/-! ===== the law's years: sums after a year ===== -/
section
variable {d : Nat} {o : Int} {A pp ss yy : TT} {bb : Int → Int → Int} {tt : Int → List Op} {tp : Int → Int} {er q dq x8 : Int} {tm : Nat} {K : AK} {a b : Nat}
variable {y1 y9 y10 y11 y12 y13 y14 y15 y16 y17 y18 y19 y20 y21 y22 y23 y24 y25 y26 y27 y28 y29 y30 y31 y32 y33 y34 y35 y36 y37 : AV}
theorem y1303 {u u2 u3 u4 l13 l15 l16 : Int} {x : Nat} (F : YF pp ss yy tt) (hS : SI pp ss) (s3 : 0 ≤ ss 3 0 ∧ ss 3 0 ≤ 900000000) (ha : a ≤ 90000) (hb : b ≤ 6000000) (hx : x ≤ 900) {h : AH} {nc ns : Nat} (B : BO h o A pp yy bb tt tp er q dq) (P : P2T h pp ss tt u u2 (pp 2 0)) (Q : Q4 h u3 u4 (pp 0 0) (fun w => sm (f_in pp ss yy w) (pp 1 0).toNat)) (h3 : u2 + pp 2 0 < u3) (hc : nc ≤ a + x) (hs : ns ≤ b + 6 * x)
    (k : ∀ h nc ns, BO h o A pp yy bb tt tp er q dq → P2T h pp ss tt u u2 (pp 2 0) → Q4 h u3 u4 (pp 0 0) (fun w => sm (f_in pp ss yy w) (pp 1 0).toNat) → nc ≤ a + (x + 3) → ns ≤ b + 6 * (x + 3) → ∀ {y20 y21 y22 y23 y24 y25 y26 y33 y34 y35 y36 y37 : AV}, WP (d + 10) 179 (1362, [(4, 0), y1, (2, o), (2, 0), (0, pp 0 0), (0, pp 1 0), (0, pp 2 0), (0, (tm : Int)), (0, x8), (0, ss 0 0), (0, ss 1 0), (0, ss 2 0), (2, u), (0, l13), (0, s_bo pp ss), (0, l15), (0, l16), (2, u2), (0, ss 3 0), (0, s_nx pp (s_col pp ss) tt (-1)), y20, y21, y22, y23, y24, y25, y26, (0, s_bc pp yy - s_bc pp ss), (2, u4), (0, sm (f_nw ss yy) (pp 1 0).toNat), (0, sm (f_np ss yy) (pp 1 0).toNat), (0, sm (f_mr ss yy) (pp 1 0).toNat), (0, 0), y33, y34, y35, y36, y37], [], h, nc, ns) K) :
    WP (d + 10) 179 (1303, [(4, 0), y1, (2, o), (2, 0), (0, pp 0 0), (0, pp 1 0), (0, pp 2 0), (0, (tm : Int)), (0, x8), (0, ss 0 0), (0, ss 1 0), (0, ss 2 0), (2, u), (0, l13), (0, s_bo pp ss), (0, l15), (0, l16), (2, u2), (0, ss 3 0), (0, s_nx pp (s_col pp ss) tt (-1)), y20, y21, y22, y23, y24, y25, y26, (0, s_bc pp yy - s_bc pp ss), (2, u4), (0, sm (f_nw ss yy) (pp 1 0).toNat), (0, sm (f_np ss yy) (pp 1 0).toNat), (0, sm (f_mr ss yy) (pp 1 0).toNat), y32, y33, y34, y35, y36, y37], [], h, nc, ns) K := by
  have hN := B.c.p1
  have hI := B.c.pi
  have Pp := P.p.b
  have Pl := P.lt
  have Pv := P.v.b
  have Qb := Q.bd
  have en : sm (f_mr ss yy) (pp 1 0).toNat = s_bc pp yy - s_bc pp ss := by
    have := F.n
    omega
  have b1 := sm_bd (f := f_nw ss yy) (B := 9999) (n := (pp 1 0).toNat) (fun i hi => by
    have := hS.cost (i := (i : Int)) (by omega) (by omega)
    unfold f_nw
    split <;> omega)
  have e10 : s_ct pp yy 0 10 = w32 (ss 3 0 + sm (f_nw ss yy) (pp 1 0).toNat) := by
    rw [w32_id (x := ss 3 0 + sm (f_nw ss yy) (pp 1 0).toNat) (by omega) (by omega)]
    exact F.o
  have nx := nx_rg (ss := s_col pp ss) (tt := tt) (lo := -1) hI
  have fin : ∀ (h : AH) (nc ns : Nat), BO h o A pp yy bb tt tp er q dq → P2T h pp ss tt u u2 (pp 2 0) → Q4 h u3 u4 (pp 0 0) (fun w => sm (f_in pp ss yy w) (pp 1 0).toNat) → nc ≤ a + (x + 3) → ns ≤ b + 6 * (x + 3) → ∀ {y20 y21 y22 y23 y24 y25 y26 y32 y33 y34 y35 y36 y37 : AV}, WP (d + 10) 179 (1359, [(4, 0), y1, (2, o), (2, 0), (0, pp 0 0), (0, pp 1 0), (0, pp 2 0), (0, (tm : Int)), (0, x8), (0, ss 0 0), (0, ss 1 0), (0, ss 2 0), (2, u), (0, l13), (0, s_bo pp ss), (0, l15), (0, l16), (2, u2), (0, ss 3 0), (0, s_nx pp (s_col pp ss) tt (-1)), y20, y21, y22, y23, y24, y25, y26, (0, s_bc pp yy - s_bc pp ss), (2, u4), (0, sm (f_nw ss yy) (pp 1 0).toNat), (0, sm (f_np ss yy) (pp 1 0).toNat), (0, sm (f_mr ss yy) (pp 1 0).toNat), y32, y33, y34, y35, y36, y37], [], h, nc, ns) K := by
    intro h nc ns B P Q hc hs
    intros
    exact v179_1359 (k h nc ns B P Q hc hs)
  refine v179_1303 ⟨fun _ => ⟨⟨B.g.t0, by omega, by omega⟩, c107 (d := d + 5) B.g (fun _ => okx ⟨fun _ => ⟨fun z => ⟨fun _ => ⟨⟨B.g.t0, by omega, by omega⟩, c107 (d := d + 5) B.g (fun _ => okx ⟨fun _ => fin h _ _ B P Q (by omega) (by omega), fun y => absurd ?_ y⟩) (fun z => absurd (by decide) z)⟩, fun y => absurd z y⟩, fun z => ⟨⟨B.g.t0, by omega, by omega⟩, c110 (d := d + 3) B.g (fun _ h2 f2 g2 => okx ⟨fun _ => ⟨fun y => absurd y z, fun _ => ?_⟩, fun y => absurd ?_ y⟩) (fun y => absurd (show _ ∧ _ from ⟨?_, by decide⟩) y)⟩⟩, fun y => absurd e10 y⟩) (fun z => absurd (by decide) z)⟩, fun y => absurd en y⟩
  · rcases nx with w | w
    · exact F.x2 w
    · omega
  · exact fin h2 _ _ (B.cl f2 (by decide) (by decide) g2) (P.fx (FX.fr f2) (fun b hb => by omega) (by omega)) (Q.fx (FX.fr f2) (by omega)) (by omega) (by omega)
  · exact F.x (by omega)
  · rcases nx with w | ⟨w1, w2, -⟩
    · omega
    · exact ⟨w1, w2⟩
theorem y1362 {u u2 u3 u4 l13 l15 l16 : Int} {x : Nat} (F : YF pp ss yy tt) (ha : a ≤ 90000) (hb : b ≤ 6000000) (hx : x ≤ 900) {h : AH} (B : BO h o A pp yy bb tt tp er q dq) (P : P2T h pp ss tt u u2 (pp 2 0)) (Q : Q4 h u3 u4 (pp 0 0) (fun w => sm (f_in pp ss yy w) (pp 1 0).toNat)) (h3 : u2 + pp 2 0 < u3)
    (k : ∀ nc ns, nc ≤ a + (x + 4) → ns ≤ b + 6 * (x + 4) → ∀ {y20 y21 y22 y23 y24 y25 y26 y32 y33 y34 y35 y36 y37 : AV}, WP (d + 10) 179 (1396, [(4, 0), y1, (2, o), (2, 0), (0, pp 0 0), (0, pp 1 0), (0, pp 2 0), (0, (tm : Int)), (0, x8), (0, ss 0 0), (0, ss 1 0), (0, ss 2 0), (2, u), (0, l13), (0, s_bo pp ss), (0, l15), (0, l16), (2, u2), (0, ss 3 0), (0, s_nx pp (s_col pp ss) tt (-1)), y20, y21, y22, y23, y24, y25, y26, (0, s_bc pp yy - s_bc pp ss), (2, u4), (0, sm (f_nw ss yy) (pp 1 0).toNat), (0, sm (f_np ss yy) (pp 1 0).toNat), (0, sm (f_mr ss yy) (pp 1 0).toNat), y32, y33, y34, y35, y36, y37], [(0, pp 2 0), (0, ss 1 0)], h, nc, ns) K) :
    ∀ (n w : Nat), (w : Int) + (n : Int) = pp 0 0 → ∀ (nc ns : Nat), nc ≤ a + (x + w) → ns ≤ b + 6 * (x + w) → WP (d + 10) 179 (1362, [(4, 0), y1, (2, o), (2, 0), (0, pp 0 0), (0, pp 1 0), (0, pp 2 0), (0, (tm : Int)), (0, x8), (0, ss 0 0), (0, ss 1 0), (0, ss 2 0), (2, u), (0, l13), (0, s_bo pp ss), (0, l15), (0, l16), (2, u2), (0, ss 3 0), (0, s_nx pp (s_col pp ss) tt (-1)), y20, y21, y22, y23, y24, y25, y26, (0, s_bc pp yy - s_bc pp ss), (2, u4), (0, sm (f_nw ss yy) (pp 1 0).toNat), (0, sm (f_np ss yy) (pp 1 0).toNat), (0, sm (f_mr ss yy) (pp 1 0).toNat), (0, (w : Int)), y33, y34, y35, y36, y37], [], h, nc, ns) K := by
  intro n
  have hI := B.c.pi
  have nw := hI.nw
  induction n with
  | zero =>
    intro w hw nc ns hc hs
    exact v179_1362 ⟨fun z => absurd z (by omega), fun _ => k nc ns (by omega) (by omega)⟩
  | succ n ih =>
    intro w hw nc ns hc hs
    have e4 : s_ow pp yy (w : Int) 0 = pp 4 (w : Int) := rfl
    have fw := F.w (w : Int) (by omega) (by omega)
    refine v179_1362 ⟨fun _ => ?_, fun z => absurd (show (w : Int) < pp 0 0 by omega) z⟩
    rw [Q.t.1, Q.t.2, Q.v (w : Int) (by omega) (by omega), show w32 ((w : Int) + 1) = ((w + 1 : Nat) : Int) by rw [w32_id (by omega) (by omega)]; omega]
    refine ⟨⟨rfl, by omega, by omega⟩, ⟨B.g.t0, by omega, by omega⟩, c109 (d := d + 7) B.g (fun _ => okx ⟨fun z => absurd z (by rw [e4]; omega), fun _ => ih (w + 1) (by omega) _ _ (by omega) (by omega)⟩) (fun z => absurd (show _ ∧ _ from ⟨⟨by omega, by omega⟩, by decide⟩) z)⟩
theorem y1396 {u u2 u3 u4 l13 l15 l16 : Int} {x : Nat} (F : YF pp ss yy tt) (hS : SI pp ss) (ha : a ≤ 90000) (hb : b ≤ 6000000) (hx : x ≤ 900) {h : AH} {nc ns : Nat} (B : BO h o A pp yy bb tt tp er q dq) (hc : nc ≤ a + x) (hs : ns ≤ b + 6 * x)
    (k : (0 ≤ s_each pp ss ∧ s_each pp ss ≤ 9999) → ∀ {y20 y21 y22 y23 y24 y25 y26 y35 y36 y37 : AV}, WP (d + 10) 179 (1436, [(4, 0), y1, (2, o), (2, 0), (0, pp 0 0), (0, pp 1 0), (0, pp 2 0), (0, (tm : Int)), (0, x8), (0, ss 0 0), (0, ss 1 0), (0, ss 2 0), (2, u), (0, l13), (0, s_bo pp ss), (0, l15), (0, l16), (2, u2), (0, ss 3 0), (0, s_nx pp (s_col pp ss) tt (-1)), y20, y21, y22, y23, y24, y25, y26, (0, s_bc pp yy - s_bc pp ss), (2, u4), (0, sm (f_nw ss yy) (pp 1 0).toNat), (0, sm (f_np ss yy) (pp 1 0).toNat), (0, sm (f_mr ss yy) (pp 1 0).toNat), (0, s_each pp ss), (0, 0), (0, 0), y35, y36, y37], [], h, nc + 1, ns + 6) K) :
    WP (d + 10) 179 (1396, [(4, 0), y1, (2, o), (2, 0), (0, pp 0 0), (0, pp 1 0), (0, pp 2 0), (0, (tm : Int)), (0, x8), (0, ss 0 0), (0, ss 1 0), (0, ss 2 0), (2, u), (0, l13), (0, s_bo pp ss), (0, l15), (0, l16), (2, u2), (0, ss 3 0), (0, s_nx pp (s_col pp ss) tt (-1)), y20, y21, y22, y23, y24, y25, y26, (0, s_bc pp yy - s_bc pp ss), (2, u4), (0, sm (f_nw ss yy) (pp 1 0).toNat), (0, sm (f_np ss yy) (pp 1 0).toNat), (0, sm (f_mr ss yy) (pp 1 0).toNat), y32, y33, y34, y35, y36, y37], [(0, pp 2 0), (0, ss 1 0)], h, nc, ns) K := by
  have hN := B.c.p1
  have bu := hS.bud
  have po := hS.pot
  have ee : s_each pp ss = (ss 1 0).tdiv (pp 2 0) := if_pos (by omega)
  have ed : (ss 1 0).tdiv (pp 2 0) = ss 1 0 / pp 2 0 := Int.tdiv_eq_ediv_of_nonneg bu.1
  have d1 : ss 1 0 / pp 2 0 * pp 2 0 ≤ ss 1 0 := Int.ediv_mul_le _ (by omega)
  have d0 : 0 ≤ ss 1 0 / pp 2 0 := Int.ediv_nonneg bu.1 (by omega)
  have d2 : ss 1 0 / pp 2 0 ≤ ss 1 0 := Int.ediv_le_self _ bu.1
  have d3 : 0 ≤ ss 1 0 / pp 2 0 * pp 2 0 := Int.mul_nonneg d0 (by omega)
  have ft := F.t
  rw [ee, ed] at ft k
  have yp := F.I.pot
  have e6 : s_ct pp yy 0 6 = yy 2 0 := rfl
  refine v179_1396 ⟨by omega, ⟨B.g.t0, by omega, by omega⟩, c107 (d := d + 5) B.g (fun _ => okx ?_) (fun z => absurd (by decide) z)⟩
  rw [ed, w32_id (x := ss 1 0 / pp 2 0) (by omega) (by omega), w32_id (x := ss 1 0 / pp 2 0 * pp 2 0) (by omega) (by omega), w32_id (x := ss 2 0 + ss 1 0) (by omega) (by omega), w32_id (x := ss 2 0 + ss 1 0 - ss 1 0 / pp 2 0 * pp 2 0) (by omega) (by omega)]
  have eq : min 9999 (ss 2 0 + ss 1 0 - ss 1 0 / pp 2 0 * pp 2 0) - sm (f_np ss yy) (pp 1 0).toNat = yy 2 0 := by
    rw [ft, show ss 2 0 + (ss 1 0 - ss 1 0 / pp 2 0 * pp 2 0) = ss 2 0 + ss 1 0 - ss 1 0 / pp 2 0 * pp 2 0 by omega]
  rw [eq, w32_id (x := yy 2 0) (by omega) (by omega)]
  exact ⟨fun _ => k ⟨d0, by omega⟩, fun z => absurd e6 z⟩
end
