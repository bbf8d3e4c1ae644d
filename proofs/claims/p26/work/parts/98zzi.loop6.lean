/-! ===== the law's years: what a year did to projects ===== -/
theorem Q4.cg {h : AH} {u3 u4 n : Int} {G G2 : Int → Int} (x : Q4 h u3 u4 n G) (e : ∀ w, 0 ≤ w → w < n → G w = G2 w) : Q4 h u3 u4 n G2 := ⟨x.t, x.bd, fun w w0 w1 => (x.v w w0 w1).trans (e w w0 w1)⟩
section
variable {d : Nat} {o : Int} {A pp ss yy : TT} {bb : Int → Int → Int} {tt : Int → List Op} {tp : Int → Int} {er q dq x8 : Int} {tm : Nat} {K : AK} {a b : Nat}
variable {y1 y9 y10 y11 y12 y13 y14 y15 y16 y17 y18 y19 y20 y21 y22 y23 y24 y25 y26 y27 y28 y29 y30 y31 y32 y33 y34 y35 y36 y37 : AV}
theorem y1115 {u u2 u3 u4 l13 l14 l15 l16 l18 l19 l27 : Int} {x : Nat} (F : YF pp ss yy tt) (hS : SI pp ss) (ha : a ≤ 90000) (hb : b ≤ 6000000) (hx : x ≤ 900)
    (k : ∀ h nc ns, BO h o A pp yy bb tt tp er q dq → P2T h pp ss tt u u2 (pp 2 0) → Q4 h u3 u4 (pp 0 0) (fun w => sm (f_in pp ss yy w) (pp 1 0).toNat) → nc ≤ a + (x + 28) → ns ≤ b + 6 * (x + 28) → ∀ {y20 y21 y22 y23 y24 y25 y26 y32 y33 y34 y35 y36 y37 : AV}, WP (d + 10) 179 (1303, [(4, 0), y1, (2, o), (2, 0), (0, pp 0 0), (0, pp 1 0), (0, pp 2 0), (0, (tm : Int)), (0, x8), (0, ss 0 0), (0, ss 1 0), (0, ss 2 0), (2, u), (0, l13), (0, l14), (0, l15), (0, l16), (2, u2), (0, l18), (0, l19), y20, y21, y22, y23, y24, y25, y26, (0, l27), (2, u4), (0, sm (f_nw ss yy) (pp 1 0).toNat), (0, sm (f_np ss yy) (pp 1 0).toNat), (0, sm (f_mr ss yy) (pp 1 0).toNat), y32, y33, y34, y35, y36, y37], [], h, nc, ns) K) (h3 : u2 + pp 2 0 < u3) :
    ∀ (n p : Nat), (p : Int) + (n : Int) = pp 1 0 → ∀ (h : AH) (nc ns : Nat), BO h o A pp yy bb tt tp er q dq → P2T h pp ss tt u u2 (pp 2 0) → Q4 h u3 u4 (pp 0 0) (fun w => sm (f_in pp ss yy w) p) → nc ≤ a + (x + 4 * p) → ns ≤ b + 6 * (x + 4 * p) → ∀ {y20 y21 y22 y23 y24 y25 y26 y33 y34 y35 y36 y37 : AV}, WP (d + 10) 179 (1115, [(4, 0), y1, (2, o), (2, 0), (0, pp 0 0), (0, pp 1 0), (0, pp 2 0), (0, (tm : Int)), (0, x8), (0, ss 0 0), (0, ss 1 0), (0, ss 2 0), (2, u), (0, l13), (0, l14), (0, l15), (0, l16), (2, u2), (0, l18), (0, l19), y20, y21, y22, y23, y24, y25, y26, (0, l27), (2, u4), (0, sm (f_nw ss yy) p), (0, sm (f_np ss yy) p), (0, sm (f_mr ss yy) p), (0, (p : Int)), y33, y34, y35, y36, y37], [], h, nc, ns) K := by
  intro n
  induction n with
  | zero =>
    intro p hp h nc ns B P Q hc hs _ _ _ _ _ _ _ _ _ _ _ _
    have hN := B.c.p1
    have ep : (pp 1 0).toNat = p := by omega
    rw [ep] at k
    exact v179_1115 ⟨fun z => absurd z (by omega), fun _ => k h nc ns B P Q (by omega) (by omega)⟩
  | succ n ih =>
    intro p hp h nc ns B P Q hc hs _ _ _ _ _ _ _ y33 y34 y35 y36 y37
    have hN := B.c.p1
    have hI := B.c.pi
    have Pp := P.p.b
    have Pl := P.lt
    have Pv := P.v.b
    have Qb := Q.bd
    have p0 : 0 ≤ (p : Int) := by omega
    have p1 : (p : Int) < pp 1 0 := by omega
    have c6 := hS.cost p0 p1
    have c7 := hS.built p0 p1
    have w5 := hI.ward p0 p1
    have sI := F.I.built p0 p1
    obtain ⟨k1, k2⟩ := F.k (p : Int) p0 p1
    have zero : ¬ (ss 7 (p : Int) = -1 ∧ ¬ yy 7 (p : Int) = -1) → ∀ (h : AH) (nc ns : Nat), BO h o A pp yy bb tt tp er q dq → P2T h pp ss tt u u2 (pp 2 0) → Q4 h u3 u4 (pp 0 0) (fun w => sm (f_in pp ss yy w) p) → nc ≤ a + (x + 4 * p + 4) → ns ≤ b + 6 * (x + 4 * p + 4) → ∀ {y20 y21 y22 y23 y24 y25 y26 y33 y34 y35 y36 y37 : AV}, WP (d + 10) 179 (1115, [(4, 0), y1, (2, o), (2, 0), (0, pp 0 0), (0, pp 1 0), (0, pp 2 0), (0, (tm : Int)), (0, x8), (0, ss 0 0), (0, ss 1 0), (0, ss 2 0), (2, u), (0, l13), (0, l14), (0, l15), (0, l16), (2, u2), (0, l18), (0, l19), y20, y21, y22, y23, y24, y25, y26, (0, l27), (2, u4), (0, sm (f_nw ss yy) p), (0, sm (f_np ss yy) p), (0, sm (f_mr ss yy) p), (0, w32 ((p : Int) + 1)), y33, y34, y35, y36, y37], [], h, nc, ns) K := by
      intro z h nc ns B P Q hc hs _ _ _ _ _ _ _ _ _ _ _ _
      have z1 : sm (f_nw ss yy) (p + 1) = sm (f_nw ss yy) p := by
        have : f_nw ss yy (p : Int) = 0 := if_neg z
        rw [sm_succ, this, Int.add_zero]
      have z2 : sm (f_np ss yy) (p + 1) = sm (f_np ss yy) p := by
        have : f_np ss yy (p : Int) = 0 := if_neg (fun y => z ⟨y.1, y.2.1⟩)
        rw [sm_succ, this, Int.add_zero]
      have z3 : sm (f_mr ss yy) (p + 1) = sm (f_mr ss yy) p := by
        have : f_mr ss yy (p : Int) = 0 := if_neg z
        rw [sm_succ, this, Int.add_zero]
      rw [← z1, ← z2, ← z3, show w32 ((p : Int) + 1) = ((p + 1 : Nat) : Int) by rw [w32_id (by omega) (by omega)]; omega]
      refine ih (p + 1) (by omega) h nc ns B P (Q.cg (fun w w0 w1 => ?_)) (by omega) (by omega)
      have : f_in pp ss yy w (p : Int) = 0 := by
        unfold f_in
        rw [if_neg z]
        split <;> rfl
      show sm (f_in pp ss yy w) p = sm (f_in pp ss yy w) (p + 1)
      rw [sm_succ, this, Int.add_zero]
    have new : ss 7 (p : Int) = -1 → ¬ yy 7 (p : Int) = -1 → ∀ (h : AH) (nc ns : Nat), BO h o A pp yy bb tt tp er q dq → P2T h pp ss tt u u2 (pp 2 0) → Q4 h u3 u4 (pp 0 0) (fun w => sm (f_in pp ss yy w) p) → nc ≤ a + (x + 4 * p + 3) → ns ≤ b + 6 * (x + 4 * p + 3) → ∀ {y20 y21 y22 y23 y24 y25 y26 y34 y35 y36 y37 : AV}, WP (d + 10) 179 (1251, [(4, 0), y1, (2, o), (2, 0), (0, pp 0 0), (0, pp 1 0), (0, pp 2 0), (0, (tm : Int)), (0, x8), (0, ss 0 0), (0, ss 1 0), (0, ss 2 0), (2, u), (0, l13), (0, l14), (0, l15), (0, l16), (2, u2), (0, l18), (0, l19), y20, y21, y22, y23, y24, y25, y26, (0, l27), (2, u4), (0, sm (f_nw ss yy) p), (0, sm (f_np ss yy) p), (0, sm (f_mr ss yy) p), (0, (p : Int)), (2, u + 1 + (p : Int)), y34, y35, y36, y37], [], h, nc, ns) K := by
      intro z zy h nc ns B P Q hc hs _ _ _ _ _ _ _ _ _ _ _
      have Qb := Q.bd
      obtain ⟨q1, q2, q3⟩ := P.p.r (p : Int) p0 p1
      have e0 : am_m h (u + 1 + (p : Int)) 0 = ss 6 (p : Int) := (P.p.v (p : Int) 0 p0 p1 (by decide) (by decide)).trans rfl
      have e1 : am_m h (u + 1 + (p : Int)) 1 = pp 5 (p : Int) := (P.p.v (p : Int) 1 p0 p1 (by decide) (by decide)).trans rfl
      have eq : am_m h u4 (pp 5 (p : Int)) = sm (f_in pp ss yy (pp 5 (p : Int))) p := Q.v _ w5.1 w5.2
      have bq := sm_bd (f := f_in pp ss yy (pp 5 (p : Int))) (B := 1) (n := p) (fun i hi => by
        unfold f_in
        split
        · split <;> omega
        · omega)
      have b1 := sm_bd (f := f_nw ss yy) (B := 9999) (n := p) (fun i hi => by
        have := hS.cost (i := (i : Int)) (by omega) (by omega)
        unfold f_nw
        split <;> omega)
      have b2 := sm_bd (f := f_np ss yy) (B := 9999) (n := p) (fun i hi => by
        have := hS.cost (i := (i : Int)) (by omega) (by omega)
        unfold f_np
        split <;> omega)
      have b3 := sm_bd (f := f_mr ss yy) (B := 1) (n := p) (fun i hi => by unfold f_mr; split <;> omega)
      refine v179_1251 ?_
      rw [e1, eq, Q.t.1, Q.t.2, w32_id (x := sm (f_in pp ss yy (pp 5 (p : Int))) p + 1) (by omega) (by omega)]
      have Bw : BO (am_w h u4 (pp 5 (p : Int)) (sm (f_in pp ss yy (pp 5 (p : Int))) p + 1)) o A pp yy bb tt tp er q dq := B.hi (FX.rf.w (by omega))
      have Pw : P2T (am_w h u4 (pp 5 (p : Int)) (sm (f_in pp ss yy (pp 5 (p : Int))) p + 1)) pp ss tt u u2 (pp 2 0) := P.fx (R := fun b => b = u4) (FX.rf.w rfl) (fun b hb => by omega) (by omega)
      have Qw : Q4 (am_w h u4 (pp 5 (p : Int)) (sm (f_in pp ss yy (pp 5 (p : Int))) p + 1)) u3 u4 (pp 0 0) (fun w => sm (f_in pp ss yy w) (p + 1)) := ⟨Q.t, Q.bd, fun w w0 w1 => by
        show _ = sm (f_in pp ss yy w) (p + 1)
        rw [am_m_w, sm_succ]
        by_cases e : w = pp 5 (p : Int)
        · rw [if_pos ⟨rfl, e⟩, e]
          have : f_in pp ss yy (pp 5 (p : Int)) (p : Int) = 1 := by
            unfold f_in
            rw [if_pos rfl, if_pos ⟨z, zy⟩]
          rw [this]
        · rw [if_neg (fun y => e y.2)]
          have : f_in pp ss yy w (p : Int) = 0 := if_neg (fun y => e y.symm)
          rw [this, Int.add_zero]
          exact Q.v w w0 w1⟩
      have e0w : am_m (am_w h u4 (pp 5 (p : Int)) (sm (f_in pp ss yy (pp 5 (p : Int))) p + 1)) (u + 1 + (p : Int)) 0 = ss 6 (p : Int) := (Pw.p.v (p : Int) 0 p0 p1 (by decide) (by decide)).trans rfl
      obtain ⟨r1, r2, r3⟩ := Pw.p.r (p : Int) p0 p1
      have z1 : sm (f_nw ss yy) p + ss 6 (p : Int) = sm (f_nw ss yy) (p + 1) := by
        have : f_nw ss yy (p : Int) = ss 6 (p : Int) := if_pos ⟨z, zy⟩
        rw [sm_succ, this]
      have z3 : sm (f_mr ss yy) p + 1 = sm (f_mr ss yy) (p + 1) := by
        have : f_mr ss yy (p : Int) = 1 := if_pos ⟨z, zy⟩
        rw [sm_succ, this]
      rw [e0w]
      generalize am_w h u4 (pp 5 (p : Int)) (sm (f_in pp ss yy (pp 5 (p : Int))) p + 1) = hw at Bw Pw Qw e0w r1 r2 r3 ⊢
      rw [w32_id (x := sm (f_nw ss yy) p + ss 6 (p : Int)) (by omega) (by omega), w32_id (x := sm (f_mr ss yy) p + 1) (by omega) (by omega), z1, z3, show w32 ((p : Int) + 1) = ((p + 1 : Nat) : Int) by rw [w32_id (by omega) (by omega)]; omega]
      refine ⟨⟨q2, by decide, by rw [q3]; decide⟩, ⟨rfl, w5.1, w5.2⟩, ⟨rfl, w5.1, w5.2⟩, ⟨r2, by decide, by rw [r3]; decide⟩, ⟨Bw.g.t0, by omega, by omega⟩, c110 (d := d + 3) Bw.g (fun _ h3 f3 g3 => okx ?_) (fun z => absurd (show _ ∧ _ from ⟨⟨p0, p1⟩, by decide⟩) z)⟩
      have B3 := Bw.cl f3 (by decide) (by decide) g3
      have P3 := Pw.fx (FX.fr f3) (fun b hb => by omega) (by omega)
      have Q3 := Qw.fx (FX.fr f3) (by omega)
      obtain ⟨s1, s2, s3⟩ := P3.p.r (p : Int) p0 p1
      have e03 : am_m h3 (u + 1 + (p : Int)) 0 = ss 6 (p : Int) := (P3.p.v (p : Int) 0 p0 p1 (by decide) (by decide)).trans rfl
      have e8 : s_op pp yy tt (p : Int) 5 = yy 8 (p : Int) := rfl
      rw [e8, e03]
      refine ⟨fun y => ⟨⟨s2, by decide, by rw [s3]; decide⟩, ?_⟩, fun y => ?_⟩
      · have z2 : sm (f_np ss yy) p + ss 6 (p : Int) = sm (f_np ss yy) (p + 1) := by
          have : f_np ss yy (p : Int) = ss 6 (p : Int) := if_pos ⟨z, zy, y⟩
          rw [sm_succ, this]
        rw [w32_id (x := sm (f_np ss yy) p + ss 6 (p : Int)) (by omega) (by omega), z2]
        exact ih (p + 1) (by omega) h3 _ _ B3 P3 Q3 (by omega) (by omega)
      · have z2 : sm (f_np ss yy) p + 0 = sm (f_np ss yy) (p + 1) := by
          have : f_np ss yy (p : Int) = 0 := if_neg (fun w => y w.2.2)
          rw [sm_succ, this]
        rw [w32_id (x := sm (f_np ss yy) p + 0) (by omega) (by omega), z2]
        exact ih (p + 1) (by omega) h3 _ _ B3 P3 Q3 (by omega) (by omega)
    obtain ⟨q1, q2, q3⟩ := P.p.r (p : Int) p0 p1
    have PX : ∀ {h2 : AH}, P2T h2 pp ss tt u u2 (pp 2 0) → (∀ j : Int, 0 ≤ j → j < 8 → am_t h2 (u + 1 + (p : Int)) = 20 ∧ 0 ≤ j ∧ j < am_l h2 (u + 1 + (p : Int))) ∧ am_m h2 (u + 1 + (p : Int)) 0 = ss 6 (p : Int) ∧ am_m h2 (u + 1 + (p : Int)) 2 = pp 6 (p : Int) ∧ am_m h2 (u + 1 + (p : Int)) 3 = s_nf pp ss (p : Int) ∧ am_m h2 (u + 1 + (p : Int)) 4 = ss 7 (p : Int) := fun {h2} P2 => by
      obtain ⟨_, t1, t2⟩ := P2.p.r (p : Int) p0 p1
      exact ⟨fun j j0 j1 => ⟨t1, j0, by rw [t2]; exact j1⟩, (P2.p.v (p : Int) 0 p0 p1 (by decide) (by decide)).trans rfl, (P2.p.v (p : Int) 2 p0 p1 (by decide) (by decide)).trans rfl, (P2.p.v (p : Int) 3 p0 p1 (by decide) (by decide)).trans rfl, (P2.p.v (p : Int) 4 p0 p1 (by decide) (by decide)).trans rfl⟩
    refine v179_1115 ⟨fun _ => ?_, fun z => absurd p1 z⟩
    rw [P.p.t.1, P.p.t.2, q1]
    refine ⟨⟨Or.inl rfl, p0, p1⟩, by omega, ⟨B.g.t0, by omega, by omega⟩, c110 (d := d + 3) B.g (fun _ h3' f3 g3 => okx ?_) (fun z => absurd (show _ ∧ _ from ⟨⟨p0, p1⟩, by decide⟩) z)⟩
    have B3 := B.cl f3 (by decide) (by decide) g3
    have P3 := P.fx (FX.fr f3) (fun b hb => by omega) (by omega)
    have Q3 := Q.fx (FX.fr f3) (by omega)
    obtain ⟨i3, v30, v32', v33, v34⟩ := PX P3
    have e7 : s_op pp yy tt (p : Int) 4 = yy 7 (p : Int) := rfl
    rw [e7, v34]
    refine ⟨i3 4 (by decide) (by decide), fun z => ⟨fun zy => ⟨⟨B3.g.t0, by omega, by omega⟩, c110 (d := d + 3) B3.g (fun _ h6 f6 g6 => okx ?_) (fun z => absurd (show _ ∧ _ from ⟨⟨p0, p1⟩, by decide⟩) z)⟩, fun zy => ⟨fun _ => ⟨⟨B3.g.t0, by omega, by omega⟩, c110 (d := d + 3) B3.g (fun _ h6 f6 g6 => okx ?_) (fun z => absurd (show _ ∧ _ from ⟨⟨p0, p1⟩, by decide⟩) z)⟩, fun y => absurd ?_ y⟩⟩, fun z => ⟨i3 4 (by decide) (by decide), fun _ => ⟨⟨B3.g.t0, by omega, by omega⟩, c110 (d := d + 3) B3.g (fun _ h6 f6 g6 => okx ?_) (fun z => absurd (show _ ∧ _ from ⟨⟨p0, p1⟩, by decide⟩) z)⟩, fun y => absurd ?_ y⟩⟩
    · have B6 := B3.cl f6 (by decide) (by decide) g6
      have P6 := P3.fx (FX.fr f6) (fun b hb => by omega) (by omega)
      have Q6 := Q3.fx (FX.fr f6) (by omega)
      obtain ⟨i6, v60, v62, v63, v64⟩ := PX P6
      have e6 : s_op pp yy tt (p : Int) 0 = yy 6 (p : Int) := rfl
      rw [e6, v60, v62]
      refine ⟨i6 0 (by decide) (by decide), i6 0 (by decide) (by decide), i6 2 (by decide) (by decide), by decide, fun _ => ?_, fun y => absurd ?_ y⟩
      · exact zero (fun w => w.2 (by omega)) h6 _ _ B6 P6 Q6 (by omega) (by omega)
      · rcases k2 (by omega) with w | w
        · exact w.2
        · have := hS.yr
          omega
    · have B6 := B3.cl f6 (by decide) (by decide) g6
      have P6 := P3.fx (FX.fr f6) (fun b hb => by omega) (by omega)
      have Q6 := Q3.fx (FX.fr f6) (by omega)
      obtain ⟨i6, v60, v62, v63, v64⟩ := PX P6
      have e6 : s_op pp yy tt (p : Int) 0 = yy 6 (p : Int) := rfl
      have kk : yy 7 (p : Int) = ss 0 0 ∧ yy 6 (p : Int) = ss 6 (p : Int) ∧ (yy 8 (p : Int) = 1 → 1 ≤ s_nf pp ss (p : Int)) := by
        rcases k2 (by omega) with w | w
        · omega
        · exact w
      rw [e6, v60]
      refine ⟨i6 0 (by decide) (by decide), fun _ => ⟨⟨B6.g.t0, by omega, by omega⟩, c110 (d := d + 3) B6.g (fun _ h9 f9 g9 => okx ?_) (fun z => absurd (show _ ∧ _ from ⟨⟨p0, p1⟩, by decide⟩) z)⟩, fun y => absurd kk.2.1 y⟩
      have B9 := B6.cl f9 (by decide) (by decide) g9
      have P9 := P6.fx (FX.fr f9) (fun b hb => by omega) (by omega)
      have Q9 := Q6.fx (FX.fr f9) (by omega)
      obtain ⟨i9, v90, v92, v93, v94⟩ := PX P9
      have e8 : s_op pp yy tt (p : Int) 5 = yy 8 (p : Int) := rfl
      rw [e8, v93]
      exact ⟨fun y => ⟨i9 3 (by decide) (by decide), fun w => absurd w (by have := kk.2.2 y; omega), fun _ => new (by omega) (by omega) h9 _ _ B9 P9 Q9 (by omega) (by omega)⟩, fun _ => new (by omega) (by omega) h9 _ _ B9 P9 Q9 (by omega) (by omega)⟩
    · rcases k2 (by omega) with w | w
      · omega
      · exact w.1
    · have B6 := B3.cl f6 (by decide) (by decide) g6
      have P6 := P3.fx (FX.fr f6) (fun b hb => by omega) (by omega)
      have Q6 := Q3.fx (FX.fr f6) (by omega)
      obtain ⟨i6, v60, v62, v63, v64⟩ := PX P6
      have e6 : s_op pp yy tt (p : Int) 0 = yy 6 (p : Int) := rfl
      rw [e6, v60]
      exact ⟨i6 0 (by decide) (by decide), fun _ => zero (fun w => by omega) h6 _ _ B6 P6 Q6 (by omega) (by omega), fun y => absurd (k1 (by omega)).2.1 y⟩
    · exact (k1 (by omega)).1
end
