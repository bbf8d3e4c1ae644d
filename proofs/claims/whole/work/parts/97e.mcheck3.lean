/-! ===== the reference looks at a token ===== -/
section
variable {d D : Nat} {h0 h : AH} {q : Int} {tp : Int → Int} {tl : Int} {kd ro va fr : Nat → Int} {mn : Nat → Nat} {E j : Nat} {f : TT} {K : AK}
theorem c194 (g : GQ h0 q tp tl kd ro va fr mn E) (x : MK h0 q ro h j f) (fi : FI ro va f j) (hj : j < E) (po : am_m h 53 10 = (j : Int)) (er : ro j = 4) (k : KM h0 q ro va j f K) : am_call d 194 [(2, 53)] h K := by
  have qb := g.qb
  have c4 := fi.c4
  obtain ⟨b7, -, -, f13, t7⟩ := g.hh x.fn
  have cs : am_m h q 9 = (cn ro 4 j : Int) := x.cs 4 9 (Or.inr (Or.inr (Or.inr ⟨rfl, rfl⟩)))
  have es : stp ro va f j = (if f 3 0 = 12 then (4, f) else (0, su f 3 0 (f 3 0 + 1))) := by
    unfold stp
    rw [if_neg (by omega), if_neg (by omega), if_neg (by omega), if_pos er]
  refine v194 ?_
  rw [f13, cs, w32_nat (by omega)]
  refine ⟨b7, by omega, t7, fun z => ?_, fun z => ⟨t7, t7, ?_⟩⟩
  · rw [if_pos (by omega)] at es
    exact k.bad es (by decide) x.fn po
  · rw [if_neg (by omega)] at es
    refine k.good es (x.cnt (k := 3) (Or.inr (Or.inr (Or.inr ⟨rfl, rfl⟩))) (by decide) qb er) ?_
    rw [am_m_w, if_neg (by omega)]
    exact po
theorem c195 (hD : 3 ≤ D) (g : GQ h0 q tp tl kd ro va fr mn E) (rf : ∀ j, j < E → RF kd ro va j) (x : MK h0 q ro h j f) (fi : FI ro va f j) (hj : j < E) (po : am_m h 53 10 = (j : Int)) (er : ro j = 10) (k : KM h0 q ro va j f K) : am_call D 195 [(2, 53), (0, (j : Int))] h K := by
  obtain ⟨d, rfl⟩ : ∃ d, D = d + 1 := ⟨D - 1, by omega⟩
  have qb := g.qb
  have E4 := g.E4
  have c2 := fi.c2
  have c3 := fi.c3
  have rj := rf j hj
  have g10 := rj.2.2.2.2.2.1 er
  have nj := rj.2.2.2.2.2.2.2.1 (by omega)
  have rg := tol_rg (ro := ro) (va := va) (as := 2) (j := j)
  obtain ⟨b7, -, -, f13, t7⟩ := g.hh x.fn
  have es : stp ro va f j = (if tol ro va 2 j = -1 then (3, f) else if f 10 (12 * (f 2 0 - 1) + tol ro va 2 j) = 1 then (5, f) else (0, su f 10 (12 * (f 2 0 - 1) + tol ro va 2 j) 1)) := by
    unfold stp
    rw [if_neg (by omega), if_neg (by omega), if_neg (by omega), if_neg (by omega), if_neg (by omega), if_neg (by omega), if_neg (by omega), if_neg (by omega), if_neg (by omega), if_pos er]
  rw [show f 2 0 - 1 = (cn ro 3 j : Int) - 1 by omega] at es
  refine v195 ?_
  rw [f13]
  refine ⟨b7, by omega, b7, c191 g rf x.fn hj (Or.inr (Or.inl rfl)) nj (by omega) (okx ?_)⟩
  have x2 := x.m0 qb (v := tol ro va 2 j)
  have po2 : am_m (am_w h 59 (j : Int) (tol ro va 2 j)) 53 10 = (j : Int) := by
    rw [am_m_w, if_neg (by omega)]
    exact po
  have me : am_m (am_w h 59 (j : Int) (tol ro va 2 j)) 59 (j : Int) = tol ro va 2 j := by rw [am_m_w, if_pos ⟨rfl, rfl⟩]
  generalize am_w h 59 (j : Int) (tol ro va 2 j) = h3 at x2 po2 me ⊢
  generalize tol ro va 2 j = p at es rg me ⊢
  have cs2 : am_m h3 q 6 = (cn ro 3 j : Int) := x2.cs 3 6 (Or.inr (Or.inr (Or.inl ⟨rfl, rfl⟩)))
  obtain ⟨b7, -, ⟨f9, t59, l59⟩, -, t7⟩ := g.hh x2.fn
  obtain ⟨p1, p2, p3, p4, p5, p6⟩ := g.rows x2.fn
  by_cases y : p = -1
  · rw [if_pos y] at es ⊢
    exact ⟨fun _ => k.bad es (by decide) x2.fn po2, fun w => absurd (by decide) w⟩
  · rw [if_neg y] at es ⊢
    refine ⟨fun w => absurd w (by decide), fun _ => ?_⟩
    rw [p5.1, cs2, w32_id (x := (cn ro 3 j : Int) - 1) (by omega) (by omega), f9, me, p5.2.1, p5.2.2, t59, l59]
    obtain ⟨v, hv⟩ : ∃ v : Nat, (cn ro 3 j : Int) - 1 = (v : Int) := ⟨cn ro 3 j - 1, by omega⟩
    rw [hv] at es ⊢
    have fn := x2.lk v (by omega)
    have fb := fn.2 p (by omega) (by omega)
    have zz := fi.z (12 * (v : Int) + p)
    rw [fb]
    refine ⟨t7, t7, ⟨rfl, by omega, by omega⟩, b7, ⟨rfl, by omega, by omega⟩, fun w => ?_, fun w => ⟨t7, t7, b7, ⟨rfl, by omega, by omega⟩, ⟨rfl, by omega, by omega⟩, ?_⟩⟩
    · rw [if_pos w] at es
      exact k.bad es (by decide) x2.fn po2
    · rw [if_neg w] at es
      refine k.good es (x2.w5 qb (v := v) (p := p) (x1 := 1) ⟨by omega, by omega⟩ (by omega) (on_rg fn.1.1 fn.1.2 (by omega) (by omega)) (fun m m0 m1 => on_bit (x := am_m h3 (q + 5) (v : Int)) (n := p) (by omega) (by omega) m0 m1) er) ?_
      rw [am_m_w, if_neg (by omega)]
      exact po2
theorem c197 (hD : 2 ≤ D) (g : GQ h0 q tp tl kd ro va fr mn E) (rf : ∀ j, j < E → RF kd ro va j) (x : MK h0 q ro h j f) (fi : FI ro va f j) (hj : j < E) (po : am_m h 53 10 = (j : Int)) (er : ro j = 5 ∨ ro j = 6 ∨ ro j = 7 ∨ ro j = 8 ∨ ro j = 0 ∨ ro j = 14) (k : KM h0 q ro va j f K) : am_call D 197 [(2, 53), (0, (j : Int))] h K := by
  obtain ⟨d, rfl⟩ : ∃ d, D = d + 1 := ⟨D - 1, by omega⟩
  have qb := g.qb
  have E4 := g.E4
  have c1 := fi.c1
  have c2 := fi.c2
  have rj := rf j hj
  obtain ⟨g0, g5, g6, g7, g9, g10, g11, g12, g13⟩ := rj
  have tq := x.fn.tq qb g.p.b
  obtain ⟨b7, ⟨f8, t58, l58⟩, ⟨f9, t59, l59⟩, f13, t7⟩ := g.hh x.fn
  obtain ⟨p1, p2, p3, p4, p5, p6⟩ := g.rows x.fn
  have cs0 : am_m h q 0 = (cn ro 1 j : Int) := x.cs 1 0 (Or.inl ⟨rfl, rfl⟩)
  have cs1 : am_m h q 2 = (cn ro 2 j : Int) := x.cs 2 2 (Or.inr (Or.inl ⟨rfl, rfl⟩))
  have e8 : am_m h 58 (j : Int) = mr (ro j) := (tq.2.2 58 _ (by omega)).trans (g.ro j hj)
  refine v197 ?_
  rw [f13, f8, t58, l58, e8]
  refine ⟨b7, by omega, b7, ⟨rfl, by omega, by omega⟩, ?_⟩
  rcases er with er | er | er | er | er | er
  · have nj := (g13 (Or.inl (by omega))).1
    have gg := g5 er
    have es : stp ro va f j = (if 0 ≤ va j ∧ va j ≤ 12 then (0, su f 4 (f 0 0 - 1) (va j)) else (5, f)) := by
      unfold stp
      rw [if_neg (by omega), if_neg (by omega), if_neg (by omega), if_neg (by omega), if_pos er]
    rw [show f 0 0 - 1 = (cn ro 5 j : Int) by omega] at es
    rw [show mr (ro j) = 5 by rw [er]; rfl, p1.1, cs0, w32_id (x := (cn ro 1 j : Int) - 1) (by omega) (by omega), show (cn ro 1 j : Int) - 1 = (cn ro 5 j : Int) by omega]
    refine ⟨fun _ => ⟨t7, t7, b7, c188 g tq.z hj nj (okx ⟨⟨p1.2.1, by omega, by rw [p1.2.2]; omega⟩, b7, ?_⟩)⟩, fun z => absurd rfl z⟩
    have x2 := x.row (as := 5) (off := 1) (b := 4) (v := va j) (by unfold RD2; omega) qb er
    have po2 : am_m (am_w h (q + 1) (cn ro 5 j : Int) (va j)) 53 10 = (j : Int) := by
      rw [am_m_w, if_neg (by omega)]
      exact po
    refine c193 g x2.fn hj nj (by omega) (okx ?_)
    by_cases y : 0 ≤ va j ∧ va j ≤ 12
    · rw [if_pos y] at es ⊢
      exact k.good es x2 po2
    · rw [if_neg y] at es ⊢
      exact k.bad es (by decide) x2.fn po2
  · have nj := (g13 (Or.inl (by omega))).1
    have gg := g6 er
    have es : stp ro va f j = (if 1 ≤ va j ∧ va j ≤ 999 then (0, su f 9 (f 1 0 - 1) (va j)) else (5, f)) := by
      unfold stp
      rw [if_neg (by omega), if_neg (by omega), if_neg (by omega), if_neg (by omega), if_neg (by omega), if_pos er]
    rw [show f 1 0 - 1 = (cn ro 6 j : Int) by omega] at es
    rw [show mr (ro j) = 6 by rw [er]; rfl, p2.1, cs1, w32_id (x := (cn ro 2 j : Int) - 1) (by omega) (by omega), show (cn ro 2 j : Int) - 1 = (cn ro 6 j : Int) by omega]
    refine ⟨fun z => absurd z (by decide), fun _ => ⟨fun _ => ⟨t7, t7, b7, c188 g tq.z hj nj (okx ⟨⟨p2.2.1, by omega, by rw [p2.2.2]; omega⟩, b7, ?_⟩)⟩, fun z => absurd rfl z⟩⟩
    have x2 := x.row (as := 6) (off := 2) (b := 9) (v := va j) (by unfold RD2; omega) qb er
    have po2 : am_m (am_w h (q + 2) (cn ro 6 j : Int) (va j)) 53 10 = (j : Int) := by
      rw [am_m_w, if_neg (by omega)]
      exact po
    refine c193 g x2.fn hj nj (by omega) (okx ?_)
    by_cases y : 1 ≤ va j ∧ va j ≤ 999
    · rw [if_pos y] at es ⊢
      exact k.good es x2 po2
    · rw [if_neg y] at es ⊢
      exact k.bad es (by decide) x2.fn po2
  · have nj := (g13 (Or.inl (by omega))).1
    have gg := g7 er
    have es : stp ro va f j = (if 0 ≤ va j ∧ va j ≤ 50 then (0, su f 6 (f 1 0 - 1) (va j)) else (5, f)) := by
      unfold stp
      rw [if_neg (by omega), if_neg (by omega), if_neg (by omega), if_neg (by omega), if_neg (by omega), if_neg (by omega), if_pos er]
    rw [show f 1 0 - 1 = (cn ro 7 j : Int) by omega] at es
    rw [show mr (ro j) = 8 by rw [er]; rfl, p4.1, cs1, w32_id (x := (cn ro 2 j : Int) - 1) (by omega) (by omega), show (cn ro 2 j : Int) - 1 = (cn ro 7 j : Int) by omega]
    refine ⟨fun z => absurd z (by decide), fun _ => ⟨fun z => absurd z (by decide), fun _ => ⟨fun z => absurd z (by decide), fun _ => ⟨fun _ => ⟨t7, t7, b7, c188 g tq.z hj nj (okx ⟨⟨p4.2.1, by omega, by rw [p4.2.2]; omega⟩, b7, ?_⟩)⟩, fun z => absurd rfl z⟩⟩⟩⟩
    have x2 := x.row (as := 7) (off := 4) (b := 6) (v := va j) (by unfold RD2; omega) qb er
    have po2 : am_m (am_w h (q + 4) (cn ro 7 j : Int) (va j)) 53 10 = (j : Int) := by
      rw [am_m_w, if_neg (by omega)]
      exact po
    refine c193 g x2.fn hj nj (by omega) (okx ?_)
    by_cases y : 0 ≤ va j ∧ va j ≤ 50
    · rw [if_pos y] at es ⊢
      exact k.good es x2 po2
    · rw [if_neg y] at es ⊢
      exact k.bad es (by decide) x2.fn po2
  · have nj := (g13 (Or.inl (by omega))).1
    have vr := (g13 (Or.inl (by omega))).2
    have es : stp ro va f j = (if va j ≤ 9999 then (0, su f 8 0 (va j)) else (5, f)) := by
      unfold stp
      rw [if_neg (by omega), if_neg (by omega), if_neg (by omega), if_neg (by omega), if_neg (by omega), if_neg (by omega), if_neg (by omega), if_pos er]
    rw [show mr (ro j) = 10 by rw [er]; rfl]
    refine ⟨fun z => absurd z (by decide), fun _ => ⟨fun z => absurd z (by decide), fun _ => ⟨fun z => absurd z (by decide), fun _ => ⟨fun z => absurd z (by decide), fun _ => ⟨fun z => absurd z (by decide), fun _ => ⟨fun _ => ⟨b7, c188 g tq.z hj nj (okx ⟨t7, b7, ?_⟩)⟩, fun z => absurd rfl z⟩⟩⟩⟩⟩⟩
    have x2 := x.w8 qb (v := va j)
    have po2 : am_m (am_w h q 8 (va j)) 53 10 = (j : Int) := by
      rw [am_m_w, if_neg (by omega)]
      exact po
    refine c193 g x2.fn hj nj (by omega) (okx ?_)
    by_cases y : va j ≤ 9999
    · rw [if_pos y] at es
      rw [if_pos (by omega)]
      exact k.good es (x2.nx (fun _ _ _ _ => rfl) x2.bg (fun z => by omega) (fun _ _ => rfl) (by omega)) po2
    · rw [if_neg y] at es
      rw [if_neg (by omega)]
      exact k.bad es (by decide) x2.fn po2
  · have es : stp ro va f j = (0, f) := by
      unfold stp
      rw [if_neg (by omega), if_neg (by omega), if_neg (by omega), if_neg (by omega), if_neg (by omega), if_neg (by omega), if_neg (by omega), if_neg (by omega), if_neg (by omega), if_neg (by omega), if_neg (by omega), if_neg (by omega), if_neg (by omega), if_neg (by omega)]
    rw [show mr (ro j) = 0 by rw [er]; rfl]
    exact ⟨fun z => absurd z (by decide), fun _ => ⟨fun z => absurd z (by decide), fun _ => ⟨fun z => absurd z (by decide), fun _ => ⟨fun z => absurd z (by decide), fun _ => ⟨fun z => absurd z (by decide), fun _ => ⟨fun z => absurd z (by decide), fun _ => k.good es (x.nx (fun _ _ _ _ => rfl) x.bg (fun z => by omega) (fun _ _ => rfl) (by omega)) po⟩⟩⟩⟩⟩⟩
  · have es : stp ro va f j = (0, su f 11 (j : Int) (va j)) := by
      unfold stp
      rw [if_neg (by omega), if_neg (by omega), if_neg (by omega), if_neg (by omega), if_neg (by omega), if_neg (by omega), if_neg (by omega), if_neg (by omega), if_neg (by omega), if_neg (by omega), if_neg (by omega), if_neg (by omega), if_neg (by omega), if_pos er]
    rw [show mr (ro j) = 0 by rw [er]; rfl]
    exact ⟨fun z => absurd z (by decide), fun _ => ⟨fun z => absurd z (by decide), fun _ => ⟨fun z => absurd z (by decide), fun _ => ⟨fun z => absurd z (by decide), fun _ => ⟨fun z => absurd z (by decide), fun _ => ⟨fun z => absurd z (by decide), fun _ => k.good es (x.nx (fun c i c1 c2 => su_ne (fun y => c1 y.1)) (x.bg.trans (su_ne (fun y => absurd y.1 (by decide))).symm) (fun z => by omega) (fun k hk => su_ne (fun y => by have := y.2; omega)) (by omega)) po⟩⟩⟩⟩⟩⟩
theorem c196 (hD : 4 ≤ D) (g : GQ h0 q tp tl kd ro va fr mn E) (rf : ∀ j, j < E → RF kd ro va j) (x : MK h0 q ro h j f) (fi : FI ro va f j) (hj : j < E) (po : am_m h 53 10 = (j : Int)) (k : KM h0 q ro va j f K) : am_call D 196 [(2, 53), (0, (j : Int))] h K := by
  obtain ⟨d, rfl⟩ : ∃ d, D = d + 1 := ⟨D - 1, by omega⟩
  have qb := g.qb
  have E4 := g.E4
  have c1 := fi.c1
  have c2 := fi.c2
  have c3 := fi.c3
  have c4 := fi.c4
  have rj := rf j hj
  obtain ⟨g0, g5, g6, g7, g9, g10, g11, g12, g13⟩ := rj
  have tq := x.fn.tq qb g.p.b
  obtain ⟨b7, ⟨f8, t58, l58⟩, ⟨f9, t59, l59⟩, f13, t7⟩ := g.hh x.fn
  obtain ⟨p1, p2, p3, p4, p5, p6⟩ := g.rows x.fn
  have cs0 : am_m h q 0 = (cn ro 1 j : Int) := x.cs 1 0 (Or.inl ⟨rfl, rfl⟩)
  have cs1 : am_m h q 2 = (cn ro 2 j : Int) := x.cs 2 2 (Or.inr (Or.inl ⟨rfl, rfl⟩))
  have cs2 : am_m h q 6 = (cn ro 3 j : Int) := x.cs 3 6 (Or.inr (Or.inr (Or.inl ⟨rfl, rfl⟩)))
  have e8 : am_m h 58 (j : Int) = mr (ro j) := (tq.2.2 58 _ (by omega)).trans (g.ro j hj)
  refine v196 ?_
  rw [f13, f8, t58, l58, e8]
  refine ⟨b7, by omega, b7, ⟨rfl, by omega, by omega⟩, ?_⟩
  rcases (show ro j = 1 ∨ ro j = 2 ∨ ro j = 3 ∨ ro j = 4 ∨ (ro j = 5 ∨ ro j = 6 ∨ ro j = 7 ∨ ro j = 8 ∨ ro j = 0 ∨ ro j = 14) ∨ ro j = 9 ∨ ro j = 10 ∨ ro j = 11 ∨ ro j = 12 ∨ ro j = 13 by omega) with er | er | er | er | er | er | er | er | er | er
  · have es : stp ro va f j = (if tol ro va 1 j = -1 then (if f 0 0 = 4 then (4, f) else (0, su f 0 0 (f 0 0 + 1))) else (2, f)) := by
      unfold stp
      rw [if_pos er]
    rw [show mr (ro j) = 1 by rw [er]; rfl, cs0]
    refine ⟨fun _ => ⟨t7, b7, c192 g rf x.fn hj (Or.inl rfl) er (by omega) (okx ?_)⟩, fun z => absurd rfl z⟩
    rw [cs0, w32_nat (by omega), w32_id (x := (cn ro 1 j : Int) + 0) (by omega) (by omega)]
    have bad : ∀ v, am_m (am_w h q 0 v) 53 10 = (j : Int) := fun v => by
      rw [am_m_w, if_neg (by omega)]
      exact po
    by_cases y : tol ro va 1 j = -1
    · rw [if_pos y] at es ⊢
      by_cases y2 : (cn ro 1 j : Int) = 4
      · rw [if_pos (by omega)] at es
        rw [if_pos y2]
        exact ⟨t7, fun w => absurd w (by decide), fun _ => ⟨t7, k.bad es (by decide) (x.fn.w (by omega)) (bad _)⟩⟩
      · rw [if_neg (by omega)] at es
        rw [if_neg y2]
        exact ⟨t7, fun _ => ⟨t7, k.good es (x.cnt (k := 0) (Or.inl ⟨rfl, rfl⟩) (by decide) qb er) (bad _)⟩, fun w => absurd rfl w⟩
    · rw [if_neg y] at es ⊢
      exact ⟨t7, fun w => absurd w (by decide), fun _ => ⟨t7, k.bad es (by decide) (x.fn.w (by omega)) (bad _)⟩⟩
  · have es : stp ro va f j = (if tol ro va 2 j = -1 then (if f 1 0 = 12 then (4, f) else (0, su f 1 0 (f 1 0 + 1))) else (2, f)) := by
      unfold stp
      rw [if_neg (by omega), if_pos er]
    rw [show mr (ro j) = 2 by rw [er]; rfl, cs1]
    refine ⟨fun z => absurd z (by decide), fun _ => ⟨fun _ => ⟨t7, b7, c192 g rf x.fn hj (Or.inr (Or.inl rfl)) er (by omega) (okx ?_)⟩, fun z => absurd rfl z⟩⟩
    rw [cs1, w32_nat (by omega), w32_id (x := (cn ro 2 j : Int) + 0) (by omega) (by omega)]
    have bad : ∀ v, am_m (am_w h q 2 v) 53 10 = (j : Int) := fun v => by
      rw [am_m_w, if_neg (by omega)]
      exact po
    by_cases y : tol ro va 2 j = -1
    · rw [if_pos y] at es ⊢
      by_cases y2 : (cn ro 2 j : Int) = 12
      · rw [if_pos (by omega)] at es
        rw [if_pos y2]
        exact ⟨t7, fun w => absurd w (by decide), fun _ => ⟨t7, k.bad es (by decide) (x.fn.w (by omega)) (bad _)⟩⟩
      · rw [if_neg (by omega)] at es
        rw [if_neg y2]
        exact ⟨t7, fun _ => ⟨t7, k.good es (x.cnt (k := 1) (Or.inr (Or.inl ⟨rfl, rfl⟩)) (by decide) qb er) (bad _)⟩, fun w => absurd rfl w⟩
    · rw [if_neg y] at es ⊢
      exact ⟨t7, fun w => absurd w (by decide), fun _ => ⟨t7, k.bad es (by decide) (x.fn.w (by omega)) (bad _)⟩⟩
  · have es : stp ro va f j = (if tol ro va 3 j = -1 then (if f 2 0 = 12 then (4, f) else (0, su f 2 0 (f 2 0 + 1))) else (2, f)) := by
      unfold stp
      rw [if_neg (by omega), if_neg (by omega), if_pos er]
    rw [show mr (ro j) = 3 by rw [er]; rfl, cs2]
    refine ⟨fun z => absurd z (by decide), fun _ => ⟨fun z => absurd z (by decide), fun _ => ⟨fun _ => ⟨t7, b7, c192 g rf x.fn hj (Or.inr (Or.inr rfl)) er (by omega) (okx ?_)⟩, fun z => absurd rfl z⟩⟩⟩
    rw [cs2, w32_nat (by omega), w32_id (x := (cn ro 3 j : Int) + 0) (by omega) (by omega)]
    have bad : ∀ v, am_m (am_w h q 6 v) 53 10 = (j : Int) := fun v => by
      rw [am_m_w, if_neg (by omega)]
      exact po
    by_cases y : tol ro va 3 j = -1
    · rw [if_pos y] at es ⊢
      by_cases y2 : (cn ro 3 j : Int) = 12
      · rw [if_pos (by omega)] at es
        rw [if_pos y2]
        exact ⟨t7, fun w => absurd w (by decide), fun _ => ⟨t7, k.bad es (by decide) (x.fn.w (by omega)) (bad _)⟩⟩
      · rw [if_neg (by omega)] at es
        rw [if_neg y2]
        exact ⟨t7, fun _ => ⟨t7, k.good es (x.cnt (k := 2) (Or.inr (Or.inr (Or.inl ⟨rfl, rfl⟩))) (by decide) qb er) (bad _)⟩, fun w => absurd rfl w⟩
    · rw [if_neg y] at es ⊢
      exact ⟨t7, fun w => absurd w (by decide), fun _ => ⟨t7, k.bad es (by decide) (x.fn.w (by omega)) (bad _)⟩⟩
  · rw [show mr (ro j) = 4 by rw [er]; rfl]
    exact ⟨fun z => absurd z (by decide), fun _ => ⟨fun z => absurd z (by decide), fun _ => ⟨fun z => absurd z (by decide), fun _ => ⟨fun _ => ⟨b7, c194 g x fi hj po er k.ok⟩, fun z => absurd rfl z⟩⟩⟩⟩
  · have c : am_call d 197 [(2, 53), (0, (j : Int))] h (fun x1 v2 h3 => am_okx x1 (K 0 v2 h3)) := c197 (by omega) g rf x fi hj po er k.ok
    rcases er with er | er | er | er | er | er
    · rw [show mr (ro j) = 5 by rw [er]; rfl]
      exact ⟨fun z => absurd z (by decide), fun _ => ⟨fun z => absurd z (by decide), fun _ => ⟨fun z => absurd z (by decide), fun _ => ⟨fun z => absurd z (by decide), fun _ => ⟨fun _ => ⟨b7, c⟩, fun z => absurd rfl z⟩⟩⟩⟩⟩
    · rw [show mr (ro j) = 6 by rw [er]; rfl]
      exact ⟨fun z => absurd z (by decide), fun _ => ⟨fun z => absurd z (by decide), fun _ => ⟨fun z => absurd z (by decide), fun _ => ⟨fun z => absurd z (by decide), fun _ => ⟨fun z => absurd z (by decide), fun _ => ⟨fun _ => ⟨b7, c⟩, fun z => absurd rfl z⟩⟩⟩⟩⟩⟩
    · rw [show mr (ro j) = 8 by rw [er]; rfl]
      exact ⟨fun z => absurd z (by decide), fun _ => ⟨fun z => absurd z (by decide), fun _ => ⟨fun z => absurd z (by decide), fun _ => ⟨fun z => absurd z (by decide), fun _ => ⟨fun z => absurd z (by decide), fun _ => ⟨fun z => absurd z (by decide), fun _ => ⟨fun z => absurd z (by decide), fun _ => ⟨fun _ => ⟨b7, c⟩, fun z => absurd rfl z⟩⟩⟩⟩⟩⟩⟩⟩
    · rw [show mr (ro j) = 10 by rw [er]; rfl]
      exact ⟨fun z => absurd z (by decide), fun _ => ⟨fun z => absurd z (by decide), fun _ => ⟨fun z => absurd z (by decide), fun _ => ⟨fun z => absurd z (by decide), fun _ => ⟨fun z => absurd z (by decide), fun _ => ⟨fun z => absurd z (by decide), fun _ => ⟨fun z => absurd z (by decide), fun _ => ⟨fun z => absurd z (by decide), fun _ => ⟨fun z => absurd z (by decide), fun _ => ⟨fun _ => ⟨b7, c⟩, fun z => absurd rfl z⟩⟩⟩⟩⟩⟩⟩⟩⟩⟩
    · rw [show mr (ro j) = 0 by rw [er]; rfl]
      exact ⟨fun z => absurd z (by decide), fun _ => ⟨fun z => absurd z (by decide), fun _ => ⟨fun z => absurd z (by decide), fun _ => ⟨fun z => absurd z (by decide), fun _ => ⟨fun z => absurd z (by decide), fun _ => ⟨fun z => absurd z (by decide), fun _ => ⟨fun z => absurd z (by decide), fun _ => ⟨fun z => absurd z (by decide), fun _ => ⟨fun z => absurd z (by decide), fun _ => ⟨fun z => absurd z (by decide), fun _ => ⟨fun z => absurd z (by decide), fun _ => ⟨fun z => absurd z (by decide), fun _ => ⟨fun z => absurd z (by decide), fun _ => ⟨b7, c⟩⟩⟩⟩⟩⟩⟩⟩⟩⟩⟩⟩⟩⟩
    · rw [show mr (ro j) = 0 by rw [er]; rfl]
      exact ⟨fun z => absurd z (by decide), fun _ => ⟨fun z => absurd z (by decide), fun _ => ⟨fun z => absurd z (by decide), fun _ => ⟨fun z => absurd z (by decide), fun _ => ⟨fun z => absurd z (by decide), fun _ => ⟨fun z => absurd z (by decide), fun _ => ⟨fun z => absurd z (by decide), fun _ => ⟨fun z => absurd z (by decide), fun _ => ⟨fun z => absurd z (by decide), fun _ => ⟨fun z => absurd z (by decide), fun _ => ⟨fun z => absurd z (by decide), fun _ => ⟨fun z => absurd z (by decide), fun _ => ⟨fun z => absurd z (by decide), fun _ => ⟨b7, c⟩⟩⟩⟩⟩⟩⟩⟩⟩⟩⟩⟩⟩⟩
  · have nj := g12 (by omega)
    have gg := g9 er
    have rg := tol_rg (ro := ro) (va := va) (as := 1) (j := j)
    have es : stp ro va f j = (if tol ro va 1 j = -1 then (3, f) else (0, su f 5 (f 1 0 - 1) (tol ro va 1 j))) := by
      unfold stp
      rw [if_neg (by omega), if_neg (by omega), if_neg (by omega), if_neg (by omega), if_neg (by omega), if_neg (by omega), if_neg (by omega), if_neg (by omega), if_pos er]
    rw [show f 1 0 - 1 = (cn ro 9 j : Int) by omega] at es
    rw [show mr (ro j) = 7 by rw [er]; rfl]
    refine ⟨fun z => absurd z (by decide), fun _ => ⟨fun z => absurd z (by decide), fun _ => ⟨fun z => absurd z (by decide), fun _ => ⟨fun z => absurd z (by decide), fun _ => ⟨fun z => absurd z (by decide), fun _ => ⟨fun z => absurd z (by decide), fun _ => ⟨fun _ => ⟨b7, c191 g rf x.fn hj (Or.inl rfl) nj (by omega) (okx ?_)⟩, fun z => absurd rfl z⟩⟩⟩⟩⟩⟩⟩
    have x2 := x.m0 qb (v := tol ro va 1 j)
    have po2 : am_m (am_w h 59 (j : Int) (tol ro va 1 j)) 53 10 = (j : Int) := by
      rw [am_m_w, if_neg (by omega)]
      exact po
    have me : am_m (am_w h 59 (j : Int) (tol ro va 1 j)) 59 (j : Int) = tol ro va 1 j := by rw [am_m_w, if_pos ⟨rfl, rfl⟩]
    generalize am_w h 59 (j : Int) (tol ro va 1 j) = h3 at x2 po2 me ⊢
    have csx : am_m h3 q 2 = (cn ro 2 j : Int) := x2.cs 2 2 (Or.inr (Or.inl ⟨rfl, rfl⟩))
    obtain ⟨b7, -, ⟨f9, t59, l59⟩, -, t7⟩ := g.hh x2.fn
    obtain ⟨p1, p2, p3, p4, p5, p6⟩ := g.rows x2.fn
    rw [f9, p3.1, csx, w32_id (x := (cn ro 2 j : Int) - 1) (by omega) (by omega), show (cn ro 2 j : Int) - 1 = (cn ro 9 j : Int) by omega, me, p3.2.1, p3.2.2, t59, l59]
    refine ⟨t7, t7, b7, ⟨rfl, by omega, by omega⟩, ⟨rfl, by omega, by omega⟩, ?_⟩
    have po3 : am_m (am_w h3 (q + 3) (cn ro 9 j : Int) (tol ro va 1 j)) 53 10 = (j : Int) := by
      rw [am_m_w, if_neg (by omega)]
      exact po2
    by_cases y : tol ro va 1 j = -1
    · rw [if_pos y] at es ⊢
      exact k.bad es (by decide) (x2.fn.w (by omega)) po3
    · rw [if_neg y] at es ⊢
      exact k.good es (x2.row (as := 9) (b := 5) (by unfold RD2; omega) qb er) po3
  · rw [show mr (ro j) = 9 by rw [er]; rfl]
    exact ⟨fun z => absurd z (by decide), fun _ => ⟨fun z => absurd z (by decide), fun _ => ⟨fun z => absurd z (by decide), fun _ => ⟨fun z => absurd z (by decide), fun _ => ⟨fun z => absurd z (by decide), fun _ => ⟨fun z => absurd z (by decide), fun _ => ⟨fun z => absurd z (by decide), fun _ => ⟨fun z => absurd z (by decide), fun _ => ⟨fun _ => ⟨b7, c195 (by omega) g rf x fi hj po er k.ok⟩, fun z => absurd rfl z⟩⟩⟩⟩⟩⟩⟩⟩⟩
  · have nj := g12 (by omega)
    have gg := g11 er
    have rg := tol_rg (ro := ro) (va := va) (as := 2) (j := j)
    have es : stp ro va f j = (if tol ro va 2 j = -1 then (3, f) else (0, su f 7 (f 3 0 - 1) (tol ro va 2 j))) := by
      unfold stp
      rw [if_neg (by omega), if_neg (by omega), if_neg (by omega), if_neg (by omega), if_neg (by omega), if_neg (by omega), if_neg (by omega), if_neg (by omega), if_neg (by omega), if_neg (by omega), if_pos er]
    rw [show f 3 0 - 1 = (cn ro 11 j : Int) by omega] at es
    rw [show mr (ro j) = 11 by rw [er]; rfl]
    refine ⟨fun z => absurd z (by decide), fun _ => ⟨fun z => absurd z (by decide), fun _ => ⟨fun z => absurd z (by decide), fun _ => ⟨fun z => absurd z (by decide), fun _ => ⟨fun z => absurd z (by decide), fun _ => ⟨fun z => absurd z (by decide), fun _ => ⟨fun z => absurd z (by decide), fun _ => ⟨fun z => absurd z (by decide), fun _ => ⟨fun z => absurd z (by decide), fun _ => ⟨fun z => absurd z (by decide), fun _ => ⟨fun _ => ⟨b7, c191 g rf x.fn hj (Or.inr (Or.inl rfl)) nj (by omega) (okx ?_)⟩, fun z => absurd rfl z⟩⟩⟩⟩⟩⟩⟩⟩⟩⟩⟩
    have x2 := x.m0 qb (v := tol ro va 2 j)
    have po2 : am_m (am_w h 59 (j : Int) (tol ro va 2 j)) 53 10 = (j : Int) := by
      rw [am_m_w, if_neg (by omega)]
      exact po
    have me : am_m (am_w h 59 (j : Int) (tol ro va 2 j)) 59 (j : Int) = tol ro va 2 j := by rw [am_m_w, if_pos ⟨rfl, rfl⟩]
    generalize am_w h 59 (j : Int) (tol ro va 2 j) = h3 at x2 po2 me ⊢
    have csx : am_m h3 q 9 = (cn ro 4 j : Int) := x2.cs 4 9 (Or.inr (Or.inr (Or.inr ⟨rfl, rfl⟩)))
    obtain ⟨b7, -, ⟨f9, t59, l59⟩, -, t7⟩ := g.hh x2.fn
    obtain ⟨p1, p2, p3, p4, p5, p6⟩ := g.rows x2.fn
    rw [f9, p6.1, csx, w32_id (x := (cn ro 4 j : Int) - 1) (by omega) (by omega), show (cn ro 4 j : Int) - 1 = (cn ro 11 j : Int) by omega, me, p6.2.1, p6.2.2, t59, l59]
    refine ⟨t7, t7, b7, ⟨rfl, by omega, by omega⟩, ⟨rfl, by omega, by omega⟩, ?_⟩
    have po3 : am_m (am_w h3 (q + 6) (cn ro 11 j : Int) (tol ro va 2 j)) 53 10 = (j : Int) := by
      rw [am_m_w, if_neg (by omega)]
      exact po2
    by_cases y : tol ro va 2 j = -1
    · rw [if_pos y] at es ⊢
      exact k.bad es (by decide) (x2.fn.w (by omega)) po3
    · rw [if_neg y] at es ⊢
      exact k.good es (x2.row (as := 11) (b := 7) (by unfold RD2; omega) qb er) po3
  · have nj := g12 (by omega)
    have es : stp ro va f j = (if tol ro va 2 j = -1 then (3, f) else (0, su f 11 (j : Int) (tol ro va 2 j))) := by
      unfold stp
      rw [if_neg (by omega), if_neg (by omega), if_neg (by omega), if_neg (by omega), if_neg (by omega), if_neg (by omega), if_neg (by omega), if_neg (by omega), if_neg (by omega), if_neg (by omega), if_neg (by omega), if_pos er]
    rw [show mr (ro j) = 12 by rw [er]; rfl]
    refine ⟨fun z => absurd z (by decide), fun _ => ⟨fun z => absurd z (by decide), fun _ => ⟨fun z => absurd z (by decide), fun _ => ⟨fun z => absurd z (by decide), fun _ => ⟨fun z => absurd z (by decide), fun _ => ⟨fun z => absurd z (by decide), fun _ => ⟨fun z => absurd z (by decide), fun _ => ⟨fun z => absurd z (by decide), fun _ => ⟨fun z => absurd z (by decide), fun _ => ⟨fun z => absurd z (by decide), fun _ => ⟨fun z => absurd z (by decide), fun _ => ⟨fun _ => ⟨b7, c191 g rf x.fn hj (Or.inr (Or.inl rfl)) nj (by omega) (okx ?_)⟩, fun z => absurd rfl z⟩⟩⟩⟩⟩⟩⟩⟩⟩⟩⟩⟩
    have x2 := x.m0 qb (v := tol ro va 2 j)
    have po2 : am_m (am_w h 59 (j : Int) (tol ro va 2 j)) 53 10 = (j : Int) := by
      rw [am_m_w, if_neg (by omega)]
      exact po
    have me : am_m (am_w h 59 (j : Int) (tol ro va 2 j)) 59 (j : Int) = tol ro va 2 j := by rw [am_m_w, if_pos ⟨rfl, rfl⟩]
    by_cases y : tol ro va 2 j = -1
    · rw [if_pos y] at es ⊢
      exact k.bad es (by decide) x2.fn po2
    · rw [if_neg y] at es ⊢
      exact k.good es (x2.nx (fun c i c1 c2 => su_ne (fun y => c1 y.1)) (x2.bg.trans (su_ne (fun y => absurd y.1 (by decide))).symm) (fun _ => me.trans su_eq.symm) (fun k hk => su_ne (fun y => by have := y.2; omega)) (by omega)) po2
  · have nj := g12 (by omega)
    have es : stp ro va f j = (if tol ro va 3 j = -1 then (3, f) else (0, su f 11 (j : Int) (tol ro va 3 j))) := by
      unfold stp
      rw [if_neg (by omega), if_neg (by omega), if_neg (by omega), if_neg (by omega), if_neg (by omega), if_neg (by omega), if_neg (by omega), if_neg (by omega), if_neg (by omega), if_neg (by omega), if_neg (by omega), if_neg (by omega), if_pos er]
    rw [show mr (ro j) = 13 by rw [er]; rfl]
    refine ⟨fun z => absurd z (by decide), fun _ => ⟨fun z => absurd z (by decide), fun _ => ⟨fun z => absurd z (by decide), fun _ => ⟨fun z => absurd z (by decide), fun _ => ⟨fun z => absurd z (by decide), fun _ => ⟨fun z => absurd z (by decide), fun _ => ⟨fun z => absurd z (by decide), fun _ => ⟨fun z => absurd z (by decide), fun _ => ⟨fun z => absurd z (by decide), fun _ => ⟨fun z => absurd z (by decide), fun _ => ⟨fun z => absurd z (by decide), fun _ => ⟨fun z => absurd z (by decide), fun _ => ⟨fun _ => ⟨b7, c191 g rf x.fn hj (Or.inr (Or.inr rfl)) nj (by omega) (okx ?_)⟩, fun z => absurd rfl z⟩⟩⟩⟩⟩⟩⟩⟩⟩⟩⟩⟩⟩
    have x2 := x.m0 qb (v := tol ro va 3 j)
    have po2 : am_m (am_w h 59 (j : Int) (tol ro va 3 j)) 53 10 = (j : Int) := by
      rw [am_m_w, if_neg (by omega)]
      exact po
    have me : am_m (am_w h 59 (j : Int) (tol ro va 3 j)) 59 (j : Int) = tol ro va 3 j := by rw [am_m_w, if_pos ⟨rfl, rfl⟩]
    by_cases y : tol ro va 3 j = -1
    · rw [if_pos y] at es ⊢
      exact k.bad es (by decide) x2.fn po2
    · rw [if_neg y] at es ⊢
      exact k.good es (x2.nx (fun c i c1 c2 => su_ne (fun y => c1 y.1)) (x2.bg.trans (su_ne (fun y => absurd y.1 (by decide))).symm) (fun _ => me.trans su_eq.symm) (fun k hk => su_ne (fun y => by have := y.2; omega)) (by omega)) po2
end
