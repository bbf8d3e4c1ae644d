/-! ===== the class's checker: a token, all tokens ===== -/
section
variable {d D : Nat} {h0 h : AH} {dq : Int} {ro va kd : Nat → Int} {E j : Nat} {f : TT} {K : AK}
theorem KC.ok (k : KC h0 dq ro va E j f K) : KC h0 dq ro va E j f (fun x v h => am_okx x (K 0 v h)) := ⟨fun e h2 x p => okx (k.1 e h2 x p), fun e h2 x p => okx (k.2 e h2 x p)⟩
theorem c23 (hD : 1 ≤ D) (x : CK h0 dq ro va E h j f) (fi : FI ro va f j) (g : RF kd ro va j) (po : am_m h 30 0 = (j : Int)) (z : am_m h 34 (j : Int) = 0) (er : ro j = 10) (k : KC h0 dq ro va E j f K) : am_call D 23 [(2, dq), (0, tol ro va 2 j)] h K := by
  obtain ⟨d, rfl⟩ : ∃ d, D = d + 1 := ⟨D - 1, by omega⟩
  have hq := x.g.qd
  have c2 := fi.c2
  have c3 := fi.c3
  have g10 := g.2.2.2.2.2.1 er
  have rg := tol_rg (ro := ro) (va := va) (as := 2) (j := j)
  have cs1 : am_m h dq 1 = (cn ro 2 j : Int) := x.cs 2 1 (Or.inr (Or.inl ⟨rfl, rfl⟩))
  have cs2 : am_m h dq 2 = (cn ro 3 j : Int) := x.cs 3 2 (Or.inr (Or.inr (Or.inl ⟨rfl, rfl⟩)))
  obtain ⟨p0, p1, p2, p3, p4, p5, p6, p7⟩ := x.p4
  have es : stp ro va f j = (if tol ro va 2 j = -1 then (3, f) else if f 10 (12 * (f 2 0 - 1) + tol ro va 2 j) = 1 then (5, f) else (0, su f 10 (12 * (f 2 0 - 1) + tol ro va 2 j) 1)) := by
    unfold stp
    rw [if_neg (by omega), if_neg (by omega), if_neg (by omega), if_neg (by omega), if_neg (by omega), if_neg (by omega), if_neg (by omega), if_neg (by omega), if_neg (by omega), if_pos er]
  have e20 : f 2 0 - 1 = (cn ro 3 j : Int) - 1 := by omega
  rw [e20] at es
  generalize tol ro va 2 j = p at es rg ⊢
  refine v23 ⟨p0, p0, c87 p0 ?_⟩
  rw [cs1, cs2, w32_id (x := (cn ro 3 j : Int) - 1) (by omega) (by omega)]
  by_cases y : p = -1
  · rw [if_pos y] at es
    rw [if_neg (by omega)]
    exact okx ⟨fun _ => k.bad es (by decide) x.fk po, fun w => absurd rfl w⟩
  · rw [if_neg y] at es
    rw [if_pos (by omega)]
    refine okx ⟨fun w => absurd w (by decide), fun _ => ⟨p0, c88 p0 ?_⟩⟩
    rw [cs2, if_pos (by omega)]
    refine okx ⟨fun w => absurd w (by decide), fun _ => ?_⟩
    rw [p5.1, p5.2.1, p5.2.2]
    obtain ⟨pn, rfl⟩ : ∃ pn : Nat, p = (pn : Int) := ⟨p.toNat, by omega⟩
    have fn := x.fn pn (by omega)
    have fb := fn.2 ((cn ro 3 j : Int) - 1) (by omega) (by omega)
    have zz := fi.z (12 * ((cn ro 3 j : Int) - 1) + (pn : Int))
    refine ⟨p0, ⟨rfl, by omega, by omega⟩, fun w => ⟨p0, ⟨rfl, by omega, by omega⟩, ⟨rfl, by omega, by omega⟩, ?_⟩, fun w => ?_⟩
    · rw [fb] at w
      rw [if_neg (by omega)] at es
      refine k.good es (x.w5 (p := pn) (v := (cn ro 3 j : Int) - 1) (x1 := 1) ⟨by omega, by omega⟩ (by omega) (on_rg fn.1.1 fn.1.2 (by omega) (by omega)) (fun m m0 m1 => on_bit (x := am_m h (dq + 5) (pn : Int)) (n := (cn ro 3 j : Int) - 1) (by omega) (by omega) m0 m1) er z (fi.mz j (Nat.le_refl _)) c2.2) ?_
      rw [am_m_w, if_neg (by omega)]
      exact po
    · rw [fb] at w
      rw [if_pos (by omega)] at es
      exact k.bad es (by decide) x.fk po
/-- what is looked up, written as a meaning -/
theorem CK.mean {v : Int} (x : CK h0 dq ro va E h j f) (er : 12 ≤ ro j) : CK h0 dq ro va E (am_w h 34 (j : Int) v) (j + 1) (su f 11 (j : Int) v) := by
  have hq := x.g.qd
  refine (x.m0 (v := v)).nx (fun c i c1 c2 => su_ne (fun y => c1 y.1)) ?_ ?_ (fun k hk => su_ne (fun y => by have := y.2; omega)) (by omega)
  · rw [am_m_w, if_neg (by omega), su_ne (fun y => absurd y.1 (by decide))]
    exact x.bg
  · rw [am_m_w, if_pos ⟨rfl, rfl⟩, su_eq]
theorem c16 (hD : 3 ≤ D) (x : CK h0 dq ro va E h j f) (fi : FI ro va f j) (g : RF kd ro va j) (hj : j < E) (po : am_m h 30 0 = (j : Int)) (k : KC h0 dq ro va E j f K) : am_call D 16 [(2, 30), (2, dq)] h K := by
  obtain ⟨d, rfl⟩ : ∃ d, D = d + 1 := ⟨D - 1, by omega⟩
  have hq := x.g.qd
  have E4 := x.g.E4
  have hg := g
  obtain ⟨g0, g5, g6, g7, g9, g10, g11, g12, g13⟩ := g
  refine v16 ?_
  rw [x.f6, po, x.t34, x.l34]
  refine ⟨x.t, x.t, ⟨rfl, by omega, by omega⟩, ?_⟩
  have x1 : CK h0 dq ro va E (am_w h 34 (j : Int) 0) j f := x.m0
  have z1 : am_m (am_w h 34 (j : Int) 0) 34 (j : Int) = 0 := by rw [am_m_w, if_pos ⟨rfl, rfl⟩]
  have po1 : am_m (am_w h 34 (j : Int) 0) 30 0 = (j : Int) := by
    rw [am_m_w, if_neg (by omega)]
    exact po
  generalize am_w h 34 (j : Int) 0 = h1 at x1 z1 po1 ⊢
  have x := x1
  have f11 := fi.mz j (Nat.le_refl _)
  have c1 := fi.c1
  have c2 := fi.c2
  have c3 := fi.c3
  have c4 := fi.c4
  have cs0 : am_m h1 dq 0 = (cn ro 1 j : Int) := x.cs 1 0 (Or.inl ⟨rfl, rfl⟩)
  have cs1 : am_m h1 dq 1 = (cn ro 2 j : Int) := x.cs 2 1 (Or.inr (Or.inl ⟨rfl, rfl⟩))
  have cs2 : am_m h1 dq 2 = (cn ro 3 j : Int) := x.cs 3 2 (Or.inr (Or.inr (Or.inl ⟨rfl, rfl⟩)))
  have cs3 : am_m h1 dq 3 = (cn ro 4 j : Int) := x.cs 4 3 (Or.inr (Or.inr (Or.inr ⟨rfl, rfl⟩)))
  obtain ⟨p0, p1, p2, p3, p4, p5, p6, p7⟩ := x.p4
  rw [x.f1, x.g1, x.f2, x.g0, po1, x.vj hj, x.rj hj, x.t24, x.l24, x.t28, x.l28]
  refine ⟨x.t, x.t22, x.t, ⟨rfl, by omega, by omega⟩, x.t, x.t27, x.t, ⟨rfl, by omega, by omega⟩, fun e1 => ?_, fun e1 => ⟨fun e2 => ?_, fun e2 => ⟨fun e3 => ?_, fun e3 => ⟨fun e4 => ?_, fun e4 => ⟨fun e5 => ?_, fun e5 => ⟨fun e6 => ?_, fun e6 => ⟨fun e7 => ?_, fun e7 => ⟨fun e8 => ?_, fun e8 => ⟨fun e9 => ?_, fun e9 => ⟨fun e10 => ?_, fun e10 => ⟨fun e11 => ?_, fun e11 => ⟨fun e12 => ?_, fun e12 => ⟨fun e13 => ?_, fun e13 => ⟨fun e14 => ?_, fun e14 => ?_⟩⟩⟩⟩⟩⟩⟩⟩⟩⟩⟩⟩⟩⟩
  · exact ⟨x.t, c17 (by omega) x fi po1 z1 e1 k.ok⟩
  · exact ⟨x.t, c18 (by omega) x fi po1 z1 e2 k.ok⟩
  · exact ⟨x.t, c19 (by omega) x fi po1 z1 e3 k.ok⟩
  · exact ⟨x.t, c21 x fi po1 hj z1 e4 k.ok⟩
  · have vr := (g13 (Or.inl (by omega))).2
    have gg := g5 e5
    have es : stp ro va f j = (if 0 ≤ va j ∧ va j ≤ 12 then (0, su f 4 (f 0 0 - 1) (va j)) else (5, f)) := by
      unfold stp
      rw [if_neg (by omega), if_neg (by omega), if_neg (by omega), if_neg (by omega), if_pos e5]
    rw [show f 0 0 - 1 = (cn ro 5 j : Int) by omega] at es
    rw [p1.1, cs0, w32_id (x := (cn ro 1 j : Int) - 1) (by omega) (by omega), show (cn ro 1 j : Int) - 1 = (cn ro 5 j : Int) by omega]
    refine ⟨p0, p0, x.t, c24 x po1 hj vr p1.2.1 (by rw [p1.2.2]; omega) (fun y => okx ?_) (fun y => okx ?_)⟩
    · rw [if_neg y] at es
      exact k.bad es (by decide) x.fk po1
    · rw [if_pos y] at es
      refine k.good es (x.row (as := 5) (b := 4) (by unfold RD; omega) z1 f11 e5) ?_
      rw [am_m_w, if_neg (by omega)]
      exact po1
  · have vr := (g13 (Or.inl (by omega))).2
    have gg := g6 e6
    have es : stp ro va f j = (if 1 ≤ va j ∧ va j ≤ 999 then (0, su f 9 (f 1 0 - 1) (va j)) else (5, f)) := by
      unfold stp
      rw [if_neg (by omega), if_neg (by omega), if_neg (by omega), if_neg (by omega), if_neg (by omega), if_pos e6]
    rw [show f 1 0 - 1 = (cn ro 6 j : Int) by omega] at es
    rw [p3.1, cs1, w32_id (x := (cn ro 2 j : Int) - 1) (by omega) (by omega), show (cn ro 2 j : Int) - 1 = (cn ro 6 j : Int) by omega]
    refine ⟨p0, p0, x.t, c24 x po1 hj vr p3.2.1 (by rw [p3.2.2]; omega) (fun y => okx ?_) (fun y => okx ?_)⟩
    · rw [if_neg y] at es
      exact k.bad es (by decide) x.fk po1
    · rw [if_pos y] at es
      refine k.good es (x.row (as := 6) (b := 9) (by unfold RD; omega) z1 f11 e6) ?_
      rw [am_m_w, if_neg (by omega)]
      exact po1
  · have vr := (g13 (Or.inl (by omega))).2
    have gg := g7 e7
    have es : stp ro va f j = (if 0 ≤ va j ∧ va j ≤ 50 then (0, su f 6 (f 1 0 - 1) (va j)) else (5, f)) := by
      unfold stp
      rw [if_neg (by omega), if_neg (by omega), if_neg (by omega), if_neg (by omega), if_neg (by omega), if_neg (by omega), if_pos e7]
    rw [show f 1 0 - 1 = (cn ro 7 j : Int) by omega] at es
    rw [p4.1, cs1, w32_id (x := (cn ro 2 j : Int) - 1) (by omega) (by omega), show (cn ro 2 j : Int) - 1 = (cn ro 7 j : Int) by omega]
    refine ⟨p0, p0, x.t, c24 x po1 hj vr p4.2.1 (by rw [p4.2.2]; omega) (fun y => okx ?_) (fun y => okx ?_)⟩
    · rw [if_neg y] at es
      exact k.bad es (by decide) x.fk po1
    · rw [if_pos y] at es
      refine k.good es (x.row (as := 7) (b := 6) (by unfold RD; omega) z1 f11 e7) ?_
      rw [am_m_w, if_neg (by omega)]
      exact po1
  · have vr := (g13 (Or.inl (by omega))).2
    have es : stp ro va f j = (if va j ≤ 9999 then (0, su f 8 0 (va j)) else (5, f)) := by
      unfold stp
      rw [if_neg (by omega), if_neg (by omega), if_neg (by omega), if_neg (by omega), if_neg (by omega), if_neg (by omega), if_neg (by omega), if_pos e8]
    refine v22 ⟨fun y => okx ?_, fun y => ⟨p0, okx ?_⟩⟩
    · rw [if_neg (by have := lc_gt.1 y; omega)] at es
      exact k.bad es (by decide) x.fk po1
    · rw [if_pos (by by_cases w : va j ≤ 9999; exact w; exact absurd (lc_gt.2 (show 9999 < va j by omega)) y)] at es
      rw [w32_id (x := va j) (by omega) (by omega)]
      have x2 := x.w4 (v := va j)
      refine k.good es (x2.nx (fun _ _ _ _ => rfl) x2.bg ?_ (fun _ _ => rfl) (Or.inr (Or.inl e8))) ?_
      · rw [am_m_w, if_neg (by omega), z1, su_ne (fun y => absurd y.1 (by decide))]
        exact f11.symm
      · rw [am_m_w, if_neg (by omega)]
        exact po1
  · have gg := g9 e9
    have rg := tol_rg (ro := ro) (va := va) (as := 1) (j := j)
    have es : stp ro va f j = (if tol ro va 1 j = -1 then (3, f) else (0, su f 5 (f 1 0 - 1) (tol ro va 1 j))) := by
      unfold stp
      rw [if_neg (by omega), if_neg (by omega), if_neg (by omega), if_neg (by omega), if_neg (by omega), if_neg (by omega), if_neg (by omega), if_neg (by omega), if_pos e9]
    rw [show f 1 0 - 1 = (cn ro 9 j : Int) by omega] at es
    rw [x.f3, cs0, p2.1, cs1, w32_id (x := (cn ro 2 j : Int) - 1) (by omega) (by omega), show (cn ro 2 j : Int) - 1 = (cn ro 9 j : Int) by omega]
    refine ⟨p0, p0, x.t, p0, x.find (by unfold NB; omega) (by decide) x.t31 (by rw [x.l31]; omega) (by omega) (okx (c25 p2.2.1 (by rw [p2.2.2]; omega) (fun y => okx ?_) (fun y => okx ?_)))⟩
    · rw [if_pos y] at es
      exact k.bad es (by decide) x.fk po1
    · rw [if_neg y] at es
      refine k.good es (x.row (as := 9) (b := 5) (by unfold RD; omega) z1 f11 e9) ?_
      rw [am_m_w, if_neg (by omega)]
      exact po1
  · rw [x.f4, cs1]
    exact ⟨x.t, p0, x.find (Or.inr (Or.inl ⟨rfl, rfl⟩)) (by decide) x.t32 (by rw [x.l32]; omega) (by omega) (okx (c23 (by omega) x fi hg po1 z1 e10 k.ok))⟩
  · have gg := g11 e11
    have rg := tol_rg (ro := ro) (va := va) (as := 2) (j := j)
    have es : stp ro va f j = (if tol ro va 2 j = -1 then (3, f) else (0, su f 7 (f 3 0 - 1) (tol ro va 2 j))) := by
      unfold stp
      rw [if_neg (by omega), if_neg (by omega), if_neg (by omega), if_neg (by omega), if_neg (by omega), if_neg (by omega), if_neg (by omega), if_neg (by omega), if_neg (by omega), if_neg (by omega), if_pos e11]
    rw [show f 3 0 - 1 = (cn ro 11 j : Int) by omega] at es
    rw [x.f4, cs1, p6.1, cs3, w32_id (x := (cn ro 4 j : Int) - 1) (by omega) (by omega), show (cn ro 4 j : Int) - 1 = (cn ro 11 j : Int) by omega]
    refine ⟨p0, p0, x.t, p0, x.find (by unfold NB; omega) (by decide) x.t32 (by rw [x.l32]; omega) (by omega) (okx (c25 p6.2.1 (by rw [p6.2.2]; omega) (fun y => okx ?_) (fun y => okx ?_)))⟩
    · rw [if_pos y] at es
      exact k.bad es (by decide) x.fk po1
    · rw [if_neg y] at es
      refine k.good es (x.row (as := 11) (b := 7) (by unfold RD; omega) z1 f11 e11) ?_
      rw [am_m_w, if_neg (by omega)]
      exact po1
  · have rg := tol_rg (ro := ro) (va := va) (as := 2) (j := j)
    have es : stp ro va f j = (if tol ro va 2 j = -1 then (3, f) else (0, su f 11 (j : Int) (tol ro va 2 j))) := by
      unfold stp
      rw [if_neg (by omega), if_neg (by omega), if_neg (by omega), if_neg (by omega), if_neg (by omega), if_neg (by omega), if_neg (by omega), if_neg (by omega), if_neg (by omega), if_neg (by omega), if_neg (by omega), if_pos e12]
    rw [x.f4, cs1, x.f6]
    refine ⟨x.t, x.t, x.t, p0, x.find (by unfold NB; omega) (by decide) x.t32 (by rw [x.l32]; omega) (by omega) (okx (c25 x.t34 (by rw [x.l34]; omega) (fun y => okx ?_) (fun y => okx ?_)))⟩
    · rw [if_pos y] at es
      exact k.bad es (by decide) x.fk po1
    · rw [if_neg y] at es
      refine k.good es (x.mean (by omega)) ?_
      rw [am_m_w, if_neg (by omega)]
      exact po1
  · have rg := tol_rg (ro := ro) (va := va) (as := 3) (j := j)
    have es : stp ro va f j = (if tol ro va 3 j = -1 then (3, f) else (0, su f 11 (j : Int) (tol ro va 3 j))) := by
      unfold stp
      rw [if_neg (by omega), if_neg (by omega), if_neg (by omega), if_neg (by omega), if_neg (by omega), if_neg (by omega), if_neg (by omega), if_neg (by omega), if_neg (by omega), if_neg (by omega), if_neg (by omega), if_neg (by omega), if_pos e13]
    rw [x.f5, cs2, x.f6]
    refine ⟨x.t, x.t, x.t, p0, x.find (by unfold NB; omega) (by decide) x.t33 (by rw [x.l33]; omega) (by omega) (okx (c25 x.t34 (by rw [x.l34]; omega) (fun y => okx ?_) (fun y => okx ?_)))⟩
    · rw [if_pos y] at es
      exact k.bad es (by decide) x.fk po1
    · rw [if_neg y] at es
      refine k.good es (x.mean (by omega)) ?_
      rw [am_m_w, if_neg (by omega)]
      exact po1
  · have vr := (g13 (Or.inr e14)).2
    have es : stp ro va f j = (0, su f 11 (j : Int) (va j)) := by
      unfold stp
      rw [if_neg (by omega), if_neg (by omega), if_neg (by omega), if_neg (by omega), if_neg (by omega), if_neg (by omega), if_neg (by omega), if_neg (by omega), if_neg (by omega), if_neg (by omega), if_neg (by omega), if_neg (by omega), if_neg (by omega), if_pos e14]
    rw [x.f6]
    refine ⟨x.t, x.t, x.t, c24 x po1 hj vr x.t34 (by rw [x.l34]; omega) (fun y => absurd vr y) (fun y => okx ?_)⟩
    refine k.good es (x.mean (by omega)) ?_
    rw [am_m_w, if_neg (by omega)]
    exact po1
  · have es : stp ro va f j = (0, f) := by
      unfold stp
      rw [if_neg e1, if_neg e2, if_neg e3, if_neg e4, if_neg e5, if_neg e6, if_neg e7, if_neg e8, if_neg e9, if_neg e10, if_neg e11, if_neg e12, if_neg e13, if_neg e14]
    exact k.good es (x.nx (fun _ _ _ _ => rfl) x.bg (z1.trans f11.symm) (fun _ _ => rfl) (by omega)) po1
/-! the arguments of the steps -/
theorem c15 {S : List (Int × Int)} (x : CK h0 dq ro va E h E f) (t8 : am_m h dq 14 = dq + 9 ∧ am_t h (dq + 9) = 20 ∧ am_l h (dq + 9) = 400) (cnt : am_m h dq 5 = (S.length : Int)) (hS : S.length ≤ 400) (st : RW (fun i => am_m h (dq + 9) i) 0 (S.map Prod.snd)) (ha : ∀ s ∈ S, 0 ≤ s.2 ∧ s.2 < (E : Int)) (k : ∀ h2, Fr 0 53 h h2 → (∀ b i, b ≠ dq + 9 → am_m h2 b i = am_m h b i) → RW (fun i => am_m h2 (dq + 9) i) 0 (S.map (fun s => f 11 s.2)) → K 0 0 h2) : am_call d 15 [(2, 30), (2, dq)] h K := by
  have hq := x.g.qd
  have E4 := x.g.E4
  obtain ⟨p0, -⟩ := x.p4
  have H : ∀ (B A : List (Int × Int)) (h1 : AH) (y3 : AV), S = A ++ B → Fr 0 53 h h1 → (∀ b i, b ≠ dq + 9 → am_m h1 b i = am_m h b i) → RW (fun i => am_m h1 (dq + 9) i) 0 (A.map (fun s => f 11 s.2) ++ B.map Prod.snd) → WP d 15 (2, [(2, 30), (2, dq), (0, (A.length : Int)), y3], [], h1, 0, 0) K := by
    intro B
    induction B with
    | nil =>
      intro A h1 y3 e fr ee rw1
      rw [List.append_nil] at e
      have hn := x.g.n
      have hn2 := x.fk.1.1
      have tt : ∀ b, b < 53 → am_t h1 b = am_t h b := fun b hb => (fr.2.2.2.1 b (by omega)).1
      have hl : ((S.length : Int)) = (A.length : Int) := by rw [e]
      refine v15_2 ?_
      simp only [tt 30 (by decide), tt dq (by omega), x.t, p0, ee dq 5 (by omega), cnt, hl, true_and]
      refine ⟨fun z => absurd z (by omega), fun _ => k h1 fr ee ?_⟩
      rw [e]
      have e2 : A.map (fun s => f 11 s.2) ++ ([] : List (Int × Int)).map Prod.snd = A.map (fun s => f 11 s.2) := List.append_nil _
      rw [e2] at rw1
      exact rw1
    | cons s B ih =>
      intro A h1 y3 e fr ee rw1
      have len : S.length = A.length + (B.length + 1) := by
        rw [e, List.length_append]
        rfl
      have hn := x.g.n
      have hn2 := x.fk.1.1
      have tt : ∀ b, b < 53 → am_t h1 b = am_t h b := fun b hb => (fr.2.2.2.1 b (by omega)).1
      have ll : ∀ b, b < 53 → am_l h1 b = am_l h b := fun b hb => (fr.2.2.2.1 b (by omega)).2
      have hs := ha s (by rw [e]; exact List.mem_append_right _ (List.mem_cons_self ..))
      have em : am_m h1 (dq + 9) (A.length : Int) = s.2 := by
        rw [RW.app] at rw1
        have := rw1.2.1
        rw [List.length_map, show (0 : Int) + (A.length : Int) = (A.length : Int) by omega] at this
        exact this
      have em2 : am_m h1 34 s.2 = f 11 s.2 := by
        rw [ee _ _ (by omega)]
        have := x.mn s.2.toNat (by omega)
        rw [show ((s.2.toNat : Nat) : Int) = s.2 by omega] at this
        exact this
      refine v15_2 ?_
      simp only [tt 30 (by decide), tt dq (by omega), tt 34 (by decide), tt (dq + 9) (by omega), ll 34 (by decide), ll (dq + 9) (by omega), x.t, x.t34, x.l34, p0, t8.2.1, t8.2.2, ee dq 5 (by omega), ee dq 14 (by omega), ee 30 6 (by omega), x.f6, cnt, t8.1, em, em2, true_and]
      refine ⟨fun _ => ⟨⟨by decide, by decide⟩, fun _ => ⟨⟨by omega, by omega⟩, fun z => absurd z (by omega), fun _ => ⟨⟨by decide, by decide⟩, fun _ => ⟨⟨by omega, by omega⟩, ⟨by omega, by omega⟩, ?_⟩, fun z => absurd (show s.2 < 401 by omega) z⟩⟩, fun z => absurd (show (A.length : Int) < 400 by omega) z⟩, fun z => absurd (show (A.length : Int) < (S.length : Int) by omega) z⟩
      rw [w32_nat (by omega)]
      have := ih (A ++ [s]) (am_w h1 (dq + 9) (A.length : Int) (f 11 s.2)) (0, s.2) (by rw [e, List.append_assoc]; rfl) (fr.w (by omega) (by omega)) (fun b i z => by rw [am_m_w, if_neg (fun y => z y.1)]; exact ee b i z) ?_
      · rw [List.length_append] at this
        exact this
      · rw [RW.app] at rw1
        rw [List.map_append, List.append_assoc, RW.app]
        refine ⟨RW.cg (fun i z1 z2 => ?_) rw1.1, ?_, RW.cg (fun i z1 z2 => ?_) rw1.2.2⟩
        · rw [List.length_map] at z2
          show am_m _ _ _ = _
          rw [am_m_w, if_neg (by omega)]
        · rw [List.length_map]
          show am_m _ _ _ = _
          rw [am_m_w, if_pos ⟨rfl, by omega⟩]
        · rw [List.length_map] at z1
          show am_m _ _ _ = _
          rw [am_m_w, if_neg (by omega)]
  exact v15 (H S [] h (9, 0) rfl Fr.rf (fun _ _ _ => rfl) st)
end
