/-! ===== the law's years: voters looked at ===== -/
theorem mean_ck : ∀ n : Nat, n < 50 → ∀ m : Nat, m < 8 → m ≠ 0 → vf_n64 (am_dm ((am_dd (am_i2d (n : Int)) (am_i2d (m : Int))).toNat : Int) (am_i2d (m : Int))) ∧ vf_n64 (am_ds ((am_dm ((am_dd (am_i2d (n : Int)) (am_i2d (m : Int))).toNat : Int) (am_i2d (m : Int))).toNat : Int) (am_i2d (n : Int))) ∧ am_dnn ((am_ds ((am_dm ((am_dd (am_i2d (n : Int)) (am_i2d (m : Int))).toNat : Int) (am_i2d (m : Int))).toNat : Int) (am_i2d (n : Int))).toNat : Int) = true ∧ ¬ (0 : Int) < am_dcl (am_dab ((am_ds ((am_dm ((am_dd (am_i2d (n : Int)) (am_i2d (m : Int))).toNat : Int) (am_i2d (m : Int))).toNat : Int) (am_i2d (n : Int))).toNat : Int)) 4562254508917369340 := by
  unfold vf_n64
  decide +kernel
section
variable {d : Nat} {o : Int} {A pp ss : TT} {bb : Int → Int → Int} {tt : Int → List Op} {tp : Int → Int} {er q dq x8 : Int} {tm : Nat} {K : AK} {a b : Nat}
variable {y1 y9 y10 y11 y12 y13 y14 y15 y16 y17 y18 y19 y20 y21 y22 y23 y24 y25 y26 y27 y28 y29 y30 y31 y32 y33 y34 y35 y36 y37 : AV}
/-- both tables -/
def P2T (h : AH) (pp ss : TT) (tt : Int → List Op) (u u2 k : Int) : Prop := (PT h u (pp 1 0) 8 (fun i t => s_op pp ss tt i t) (pp 1 0)) ∧ (PT h u2 (pp 2 0) 4 (fun i t => s_ov pp ss i t) k) ∧ (u + pp 1 0 < u2)
theorem P2T.p {h : AH} {pp ss : TT} {tt : Int → List Op} {u u2 k : Int} (x : P2T h pp ss tt u u2 k) : PT h u (pp 1 0) 8 (fun i t => s_op pp ss tt i t) (pp 1 0) := x.1
theorem P2T.v {h : AH} {pp ss : TT} {tt : Int → List Op} {u u2 k : Int} (x : P2T h pp ss tt u u2 k) : PT h u2 (pp 2 0) 4 (fun i t => s_ov pp ss i t) k := x.2.1
theorem P2T.lt {h : AH} {pp ss : TT} {tt : Int → List Op} {u u2 k : Int} (x : P2T h pp ss tt u u2 k) : u + pp 1 0 < u2 := x.2.2
theorem P2T.fx {h h2 : AH} {u u2 k : Int} {R : Int → Prop} (x : P2T h pp ss tt u u2 k) (f : FX R h h2) (hR : ∀ b, R b → b < u ∨ u2 + pp 2 0 < b) (hk : k ≤ pp 2 0) : P2T h2 pp ss tt u u2 k := by
  have xd := x.lt
  have xv := x.v.b
  exact ⟨x.p.fx f (fun b hb => by have := hR b hb; omega) (by omega), x.v.fx f (fun b hb => by have := hR b hb; have := x.p.b; omega) hk, x.lt⟩
theorem y523 {u u2 l13 l14 l15 l16 : Int} {x : Nat} (ha : a ≤ 90000) (hb : b ≤ 6000000) (hx : x ≤ 1000) (v : Nat) (hv : (v : Int) < pp 2 0)
    (k : ∀ h nc ns, BO h o A pp ss bb tt tp er q dq → P2T h pp ss tt u u2 ((v : Int) + 1) → nc ≤ a + (x + 4) → ns ≤ b + 6 * (x + 4) → ∀ {y22 y23 y24 y25 y26 y27 y28 y29 y30 y31 y32 y33 y34 y35 y36 y37 : AV}, WP (d + 10) 179 (554, [(4, 0), y1, (2, o), (2, 0), (0, pp 0 0), (0, pp 1 0), (0, pp 2 0), (0, (tm : Int)), (0, x8), (0, ss 0 0), (0, ss 1 0), (0, ss 2 0), (2, u), (0, l13), (0, l14), (0, l15), (0, l16), (2, u2), (0, (v : Int)), (0, 0), (0, 0), (0, 0), y22, y23, y24, y25, y26, y27, y28, y29, y30, y31, y32, y33, y34, y35, y36, y37], [], h, nc, ns) K) :
    ∀ (n j : Nat), j + n = 4 → ∀ (h : AH) (nc ns : Nat), BO h o A pp ss bb tt tp er q dq → P2T h pp ss tt u u2 (v : Int) → (∀ t, 0 ≤ t → t < (j : Int) → am_m h (u2 + 1 + (v : Int)) t = s_ov pp ss (v : Int) t) → nc ≤ a + (x + j) → ns ≤ b + 6 * (x + j) → WP (d + 10) 179 (523, [(4, 0), y1, (2, o), (2, 0), (0, pp 0 0), (0, pp 1 0), (0, pp 2 0), (0, (tm : Int)), (0, x8), (0, ss 0 0), (0, ss 1 0), (0, ss 2 0), (2, u), (0, l13), (0, l14), (0, l15), (0, l16), (2, u2), (0, (v : Int)), (0, 0), (0, 0), (0, (j : Int)), y22, y23, y24, y25, y26, y27, y28, y29, y30, y31, y32, y33, y34, y35, y36, y37], [], h, nc, ns) K := by
  intro n
  induction n with
  | zero =>
    intro j hj h nc ns B P r hc hs
    refine v179_523 ⟨fun z => absurd z (by omega), fun _ => ?_⟩
    exact k h nc ns B ⟨P.p, P.v.nx (fun t t0 t1 => r t t0 (by omega)), P.lt⟩ (by omega) (by omega)
  | succ n ih =>
    intro j hj h nc ns B P r hc hs
    obtain ⟨r1, r2, r3⟩ := P.v.r (v : Int) (by omega) hv
    have Pb := P.v.b
    have Pd := P.lt
    have Pp := P.p.b
    refine v179_523 ⟨fun _ => ?_, fun z => absurd (show (j : Int) < 4 by omega) z⟩
    rw [P.v.t.1, P.v.t.2, r1, show w32 ((j : Int) + 1) = ((j + 1 : Nat) : Int) by rw [w32_id (by omega) (by omega)]; omega]
    refine ⟨⟨Or.inl rfl, by omega, hv⟩, ⟨B.g.t0, by omega, by omega⟩, c112 (d := d + 6) B.g (fun _ => okx ?_) (fun z => absurd (show _ ∧ _ from ⟨⟨by omega, hv⟩, by omega, by omega⟩) z)⟩
    rw [r2, r3]
    refine ⟨⟨rfl, by omega, by omega⟩, ih (j + 1) (by omega) _ _ _ (B.hi (FX.rf.w (by omega))) ⟨P.p.fx (R := fun b => b = u2 + 1 + (v : Int)) (FX.rf.w rfl) (fun b hb => by omega) (by omega), P.v.wr (by omega), P.lt⟩ (fun t t0 t1 => ?_) (by omega) (by omega)⟩
    rw [am_m_w]
    by_cases e : t = (j : Int)
    · rw [if_pos ⟨rfl, e⟩, e]
    · rw [if_neg (fun z => e z.2)]
      exact r t t0 (by omega)
theorem y554 {u u2 l13 l14 l15 l16 : Int} {x : Nat} {h : AH} (B : BO h o A pp ss bb tt tp er q dq) (ha : a ≤ 90000) (hb : b ≤ 6000000) (hx : x ≤ 1000) (v : Nat) (hv : (v : Int) < pp 2 0) (P : P2T h pp ss tt u u2 ((v : Int) + 1)) (s5 : 0 ≤ ss 5 (v : Int)) (c15 : 0 ≤ l15 ∧ l15 ≤ 1000000) (c16 : 0 ≤ l16 ∧ l16 ≤ 1000)
    (k : ∀ nc ns, nc ≤ a + (x + 16) → ns ≤ b + 6 * (x + 16) → ∀ {y19 y20 y21 y22 y23 y24 y25 y26 y27 y28 y29 y30 y31 y32 y33 y34 y35 y36 y37 : AV}, WP (d + 10) 179 (507, [(4, 0), y1, (2, o), (2, 0), (0, pp 0 0), (0, pp 1 0), (0, pp 2 0), (0, (tm : Int)), (0, x8), (0, ss 0 0), (0, ss 1 0), (0, ss 2 0), (2, u), (0, l13), (0, l14), (0, l15 + f_pu ss (v : Int)), (0, l16 + s_pl pp ss (v : Int)), (2, u2), (0, ((v + 1 : Nat) : Int)), y19, y20, y21, y22, y23, y24, y25, y26, y27, y28, y29, y30, y31, y32, y33, y34, y35, y36, y37], [], h, nc, ns) K) :
    ∀ (n p : Nat), (p : Int) + (n : Int) = pp 1 0 → ∀ (nc ns : Nat), nc ≤ a + (x + 2 * p) → ns ≤ b + 6 * (x + 2 * p) → WP (d + 10) 179 (554, [(4, 0), y1, (2, o), (2, 0), (0, pp 0 0), (0, pp 1 0), (0, pp 2 0), (0, (tm : Int)), (0, x8), (0, ss 0 0), (0, ss 1 0), (0, ss 2 0), (2, u), (0, l13), (0, l14), (0, l15), (0, l16), (2, u2), (0, (v : Int)), (0, sm (f_pl ss (v : Int)) p), (0, sm (f_lk ss (v : Int)) p), (0, (p : Int)), y22, y23, y24, y25, y26, y27, y28, y29, y30, y31, y32, y33, y34, y35, y36, y37], [], h, nc, ns) K := by
  intro n
  have hN := B.c.p1
  have hS := B.c.si
  have hI := B.c.pi
  have Pv := P.v.b
  have Pp := P.p.b
  induction n with
  | zero =>
    intro p hp nc ns hc hs
    have ep : p = (pp 1 0).toNat := by omega
    have e19 : sm (f_pl ss (v : Int)) p = s_pl pp ss (v : Int) := by rw [ep]; rfl
    have e20 : sm (f_lk ss (v : Int)) p = s_lk pp ss (v : Int) := by rw [ep]; rfl
    obtain ⟨r1, r2, r3⟩ := P.v.r (v : Int) (by omega) hv
    have e0 : am_m h (u2 + 1 + (v : Int)) 0 = ss 4 (v : Int) := (P.v.v (v : Int) 0 (by omega) (by omega) (by decide) (by decide)).trans rfl
    have e1 : am_m h (u2 + 1 + (v : Int)) 1 = s_lk pp ss (v : Int) := (P.v.v (v : Int) 1 (by omega) (by omega) (by decide) (by decide)).trans rfl
    have e2 : am_m h (u2 + 1 + (v : Int)) 2 = s_pl pp ss (v : Int) := (P.v.v (v : Int) 2 (by omega) (by omega) (by decide) (by decide)).trans rfl
    have e3 : am_m h (u2 + 1 + (v : Int)) 3 = ss 5 (v : Int) := (P.v.v (v : Int) 3 (by omega) (by omega) (by decide) (by decide)).trans rfl
    have s4 := hS.purse (i := (v : Int)) (by omega) hv
    have b1 := pl_bd (v := (v : Int)) hI hS
    have b2 := pl_bd (v := 0) hI hS
    refine v179_554 ⟨fun z => absurd z (by omega), fun _ => ?_⟩
    rw [e19, e20, P.v.t.1, P.v.t.2, r1, r2, r3, e0, e1, e2, e3]
    refine ⟨⟨Or.inl rfl, by omega, hv⟩, ⟨rfl, by decide, by decide⟩, ⟨Or.inl rfl, by omega, hv⟩, ⟨rfl, by decide, by decide⟩, fun z => absurd z (by omega), fun _ => ⟨⟨Or.inl rfl, by omega, hv⟩, ⟨rfl, by decide, by decide⟩, fun z => absurd z (by omega), fun _ => ⟨⟨Or.inl rfl, by omega, hv⟩, ⟨rfl, by decide, by decide⟩, ⟨fun _ => ⟨⟨Or.inl rfl, by omega, hv⟩, ⟨rfl, by decide, by decide⟩, ⟨fun _ => ⟨⟨Or.inl rfl, by omega, hv⟩, ⟨rfl, by decide, by decide⟩, fun z => absurd z (by omega), fun _ => ⟨⟨B.g.t0, by omega, by omega⟩, c114 (d := d + 8) B.g (fun _ => okx ⟨⟨B.g.t0, by omega, by omega⟩, c114 (d := d + 8) B.g (fun _ => okx ⟨fun _ => ?_, fun z => absurd ?_ z⟩) (fun z => absurd (show _ ∧ _ from ⟨⟨by decide, by omega⟩, by omega, hv⟩) z)⟩) (fun z => absurd (show _ ∧ _ from ⟨⟨by omega, hv⟩, by decide, by omega⟩) z)⟩⟩, fun z => absurd rfl z⟩⟩, fun z => absurd rfl z⟩⟩⟩⟩
    · have f4 : f_pu ss (v : Int) = ss 4 (v : Int) := rfl
      rw [f4] at k
      rw [w32_id (x := l15 + ss 4 (v : Int)) (by omega) (by omega), w32_id (x := l16 + s_pl pp ss (v : Int)) (by omega) (by omega), show w32 ((v : Int) + 1) = ((v + 1 : Nat) : Int) by rw [w32_id (by omega) (by omega)]; omega]
      exact k _ _ (by omega) (by omega)
    · rw [w32_id (x := s_pl pp ss (v : Int) - s_pl pp ss 0) (by omega) (by omega), w32_id (x := s_pl pp ss 0 - s_pl pp ss (v : Int)) (by omega) (by omega), w32_id (by omega) (by omega)]
      omega
  | succ n ih =>
    intro p hp nc ns hc hs
    obtain ⟨r1, r2, r3⟩ := P.p.r (p : Int) (by omega) (by omega)
    have e4 : am_m h (u + 1 + (p : Int)) 4 = ss 7 (p : Int) := (P.p.v (p : Int) 4 (by omega) (by omega) (by decide) (by decide)).trans rfl
    have f9 := hS.fan (12 * (v : Int) + (p : Int))
    have c7 := hS.built (i := (p : Int)) (by omega) (by omega)
    have b1 := sm_bd (f := f_pl ss (v : Int)) (B := 1) (n := p) (fun i hi => by
      have := hS.fan (12 * (v : Int) + (i : Int))
      unfold f_pl
      split <;> omega)
    have b2 := sm_bd (f := f_lk ss (v : Int)) (B := 1) (n := p) (fun i hi => by
      have := hS.fan (12 * (v : Int) + (i : Int))
      unfold f_lk
      omega)
    have go : ∀ c e : Int, c = f_pl ss (v : Int) (p : Int) → e = f_lk ss (v : Int) (p : Int) → WP (d + 10) 179 (554, [(4, 0), y1, (2, o), (2, 0), (0, pp 0 0), (0, pp 1 0), (0, pp 2 0), (0, (tm : Int)), (0, x8), (0, ss 0 0), (0, ss 1 0), (0, ss 2 0), (2, u), (0, l13), (0, l14), (0, l15), (0, l16), (2, u2), (0, (v : Int)), (0, w32 (sm (f_pl ss (v : Int)) p + c)), (0, w32 (sm (f_lk ss (v : Int)) p + e)), (0, w32 ((p : Int) + 1)), y22, y23, y24, y25, y26, y27, y28, y29, y30, y31, y32, y33, y34, y35, y36, y37], [], h, nc + 1 + 1, ns + 6 + 6) K := by
      intro c e ec ee
      have c1 : 0 ≤ c ∧ c ≤ 1 := by
        rw [ec]
        unfold f_pl
        split <;> omega
      have c2 : 0 ≤ e ∧ e ≤ 1 := by
        rw [ee]
        unfold f_lk
        omega
      rw [w32_id (x := sm (f_pl ss (v : Int)) p + c) (by omega) (by omega), w32_id (x := sm (f_lk ss (v : Int)) p + e) (by omega) (by omega), show w32 ((p : Int) + 1) = ((p + 1 : Nat) : Int) by rw [w32_id (by omega) (by omega)]; omega, ec, ee]
      exact ih (p + 1) (by omega) _ _ (by omega) (by omega)
    refine v179_554 ⟨fun _ => ⟨⟨B.g.t0, by omega, by omega⟩, c113 (d := d + 8) B.g (fun _ => okx ⟨fun z => ⟨⟨B.g.t0, by omega, by omega⟩, c113 (d := d + 8) B.g (fun _ => okx ⟨fun _ => go 0 0 ?_ ?_, fun z2 => absurd z z2⟩) (fun z => absurd (show _ ∧ _ from ⟨⟨by omega, hv⟩, by omega, by omega⟩) z)⟩, fun z => ⟨⟨B.g.t0, by omega, by omega⟩, c113 (d := d + 8) B.g (fun _ => okx ⟨fun z2 => absurd z2 z, fun _ => ?_⟩) (fun z => absurd (show _ ∧ _ from ⟨⟨by omega, hv⟩, by omega, by omega⟩) z)⟩⟩) (fun z => absurd (show _ ∧ _ from ⟨⟨by omega, hv⟩, by omega, by omega⟩) z)⟩, fun z => absurd (show (p : Int) < pp 1 0 by omega) z⟩
    · unfold f_pl
      rw [z]
      split <;> rfl
    · exact z.symm
    · rw [P.p.t.1, P.p.t.2, r1, r2, r3, e4]
      refine ⟨⟨Or.inl rfl, by omega, by omega⟩, ⟨rfl, by decide, by decide⟩, fun z3 => go 0 1 ?_ ?_, fun z3 => go 1 1 ?_ ?_⟩
      · exact (if_pos (by omega)).symm
      · show 1 = ss 9 (12 * (v : Int) + (p : Int))
        omega
      · unfold f_pl
        rw [if_neg (by omega)]
        omega
      · show 1 = ss 9 (12 * (v : Int) + (p : Int))
        omega
theorem y507 {u u2 l13 l14 : Int} {x : Nat} (hI : PI pp) (hS : SI pp ss) (ha : a ≤ 90000) (hb : b ≤ 6000000) (hx : x ≤ 500) (s5 : ∀ v, 0 ≤ v → v < pp 2 0 → 0 ≤ ss 5 v)
    (k : ∀ h nc ns, BO h o A pp ss bb tt tp er q dq → P2T h pp ss tt u u2 (pp 2 0) → nc ≤ a + (x + 140) → ns ≤ b + 6 * (x + 140) → ∀ {y18 y19 y20 y21 y22 y23 y24 y25 y26 y27 y28 y29 y30 y31 y32 y33 y34 y35 y36 y37 : AV}, WP (d + 10) 179 (721, [(4, 0), y1, (2, o), (2, 0), (0, pp 0 0), (0, pp 1 0), (0, pp 2 0), (0, (tm : Int)), (0, x8), (0, ss 0 0), (0, ss 1 0), (0, ss 2 0), (2, u), (0, l13), (0, l14), (0, s_pu pp ss), (0, s_ps pp ss), (2, u2), y18, y19, y20, y21, y22, y23, y24, y25, y26, y27, y28, y29, y30, y31, y32, y33, y34, y35, y36, y37], [], h, nc, ns) K) :
    ∀ (n v : Nat), (v : Int) + (n : Int) = pp 2 0 → ∀ (h : AH) (nc ns : Nat), BO h o A pp ss bb tt tp er q dq → P2T h pp ss tt u u2 (v : Int) → nc ≤ a + (x + 20 * v) → ns ≤ b + 6 * (x + 20 * v) → ∀ {y19 y20 y21 y22 y23 y24 y25 y26 y27 y28 y29 y30 y31 y32 y33 y34 y35 y36 y37 : AV}, WP (d + 10) 179 (507, [(4, 0), y1, (2, o), (2, 0), (0, pp 0 0), (0, pp 1 0), (0, pp 2 0), (0, (tm : Int)), (0, x8), (0, ss 0 0), (0, ss 1 0), (0, ss 2 0), (2, u), (0, l13), (0, l14), (0, sm (f_pu ss) v), (0, sm (s_pl pp ss) v), (2, u2), (0, (v : Int)), y19, y20, y21, y22, y23, y24, y25, y26, y27, y28, y29, y30, y31, y32, y33, y34, y35, y36, y37], [], h, nc, ns) K := by
  intro n
  induction n with
  | zero =>
    intro v hv h nc ns B P hc hs _ _ _ _ _ _ _ _ _ _ _ _ _ _ _ _ _ _ _
    have hN := B.c.p1
    have ev : v = (pp 2 0).toNat := by omega
    have e15 : sm (f_pu ss) v = s_pu pp ss := by rw [ev]; rfl
    have e16 : sm (s_pl pp ss) v = s_ps pp ss := by rw [ev]; rfl
    have ei : (v : Int) = pp 2 0 := by omega
    rw [ei] at P
    rw [e15, e16]
    exact v179_507 ⟨fun z => absurd z (by omega), fun _ => k h nc ns B P (by omega) (by omega)⟩
  | succ n ih =>
    intro v hv h nc ns B P hc hs _ _ _ _ _ _ _ _ _ _ _ _ _ _ _ _ _ _ _
    have hN := B.c.p1
    have b1 := sm_bd (f := f_pu ss) (B := 9999) (n := v) (fun i hi => hS.purse (i := (i : Int)) (by omega) (by omega))
    have b2 := ps_bd hI hS v (by omega)
    refine v179_507 ⟨fun _ => ?_, fun z => absurd (show (v : Int) < pp 2 0 by omega) z⟩
    refine y523 (x := x + 20 * v) ha hb (by omega) v (by omega) ?_ 4 0 rfl h nc ns B P (fun t t0 t1 => absurd t1 (by omega)) (by omega) (by omega)
    intro h2 nc2 ns2 B2 P2 hc2 hs2 _ _ _ _ _ _ _ _ _ _ _ _ _ _ _ _
    refine y554 (x := x + 20 * v + 4) B2 ha hb (by omega) v (by omega) P2 (s5 _ (by omega) (by omega)) (by omega) (by omega) ?_ (pp 1 0).toNat 0 (by omega) nc2 ns2 (by omega) (by omega)
    intro nc3 ns3 hc3 hs3 _ _ _ _ _ _ _ _ _ _ _ _ _ _ _ _ _ _ _
    have ei : (v : Int) + 1 = ((v + 1 : Nat) : Int) := by omega
    rw [ei] at P2
    exact ih (v + 1) (by omega) h2 nc3 ns3 B2 P2 (by omega) (by omega)
theorem y721 {u u2 l13 l14 : Int} {x : Nat} {h : AH} {nc ns : Nat} (B : BO h o A pp ss bb tt tp er q dq) (ha : a ≤ 90000) (hb : b ≤ 6000000) (hx : x ≤ 900) (hc : nc ≤ a + x) (hs : ns ≤ b + 6 * x)
    (k : ∀ {y18 y19 y20 y21 y22 y23 y24 y25 y26 y27 y28 y29 y30 y31 y32 y33 y34 y35 y36 y37 : AV}, WP (d + 10) 179 (791, [(4, 0), y1, (2, o), (2, 0), (0, pp 0 0), (0, pp 1 0), (0, pp 2 0), (0, (tm : Int)), (0, x8), (0, ss 0 0), (0, ss 1 0), (0, ss 2 0), (2, u), (0, s_bc pp ss), (0, s_bo pp ss), (0, s_pu pp ss), (0, s_ps pp ss), (2, u2), y18, y19, y20, y21, y22, y23, y24, y25, y26, y27, y28, y29, y30, y31, y32, y33, y34, y35, y36, y37], [], h, nc + 1 + 1 + 1, ns + 6 + 6 + 6) K) :
    WP (d + 10) 179 (721, [(4, 0), y1, (2, o), (2, 0), (0, pp 0 0), (0, pp 1 0), (0, pp 2 0), (0, (tm : Int)), (0, x8), (0, ss 0 0), (0, ss 1 0), (0, ss 2 0), (2, u), (0, s_bc pp ss), (0, s_bo pp ss), (0, s_pu pp ss), (0, s_ps pp ss), (2, u2), y18, y19, y20, y21, y22, y23, y24, y25, y26, y27, y28, y29, y30, y31, y32, y33, y34, y35, y36, y37], [], h, nc, ns) K := by
  have hN := B.c.p1
  have hS := B.c.si
  have hI := B.c.pi
  have pot := hS.pot
  have e1 : s_ct pp ss 0 7 = s_pu pp ss := rfl
  have e2 : s_ct pp ss 0 8 = s_bc pp ss := rfl
  have e3 : s_ct pp ss 0 9 = s_bo pp ss := rfl
  have psb : 0 ≤ s_ps pp ss ∧ s_ps pp ss ≤ 7 * (((pp 2 0).toNat : Nat) : Int) := sm_bd (f := s_pl pp ss) (B := 7) (n := (pp 2 0).toNat) (fun i hi => by
    have := sm_bd (f := f_pl ss (i : Int)) (B := 1) (n := (pp 1 0).toNat) (fun j hj => by
      have := hS.fan (12 * (i : Int) + (j : Int))
      unfold f_pl
      split <;> omega)
    have z : s_pl pp ss (i : Int) = sm (f_pl ss (i : Int)) (pp 1 0).toNat := rfl
    omega)
  have mn : s_mn pp ss = ((am_dd (am_i2d (s_ps pp ss)) (am_i2d (pp 2 0))).toNat : Int) := if_neg (by omega)
  have ck := mean_ck (s_ps pp ss).toNat (by omega) (pp 2 0).toNat (by omega) (by omega)
  rw [Int.toNat_of_nonneg psb.1, Int.toNat_of_nonneg (show 0 ≤ pp 2 0 by omega)] at ck
  obtain ⟨k1, k2, k3, k4⟩ := ck
  refine v179_721 ⟨⟨B.g.t0, by omega, by omega⟩, c107 (d := d + 5) B.g (fun _ => okx ⟨fun _ => ⟨⟨B.g.t0, by omega, by omega⟩, c107 (d := d + 5) B.g (fun _ => okx ⟨fun _ => ⟨⟨B.g.t0, by omega, by omega⟩, c107 (d := d + 5) B.g (fun _ => okx ⟨fun _ => ⟨fun z => absurd z (by omega), fun _ => ⟨fun z => absurd z (by omega), fun _ => ⟨B.g.t0, c125 (d := d + 8) B.g (okx ?_)⟩⟩⟩, fun z => absurd e3 z⟩) (fun z => absurd (by decide) z)⟩, fun z => absurd e2 z⟩) (fun z => absurd (by decide) z)⟩, fun z => absurd e1 z⟩) (fun z => absurd (by decide) z)⟩
  rw [mn]
  exact ⟨k1, k2, k3, fun z => absurd z k4, fun _ => k⟩
theorem y791 {u u2 l13 l14 l15 l16 : Int} {x : Nat} {h : AH} {nc ns : Nat} (B : BO h o A pp ss bb tt tp er q dq) (P : P2T h pp ss tt u u2 (pp 2 0)) (ha : a ≤ 90000) (hb : b ≤ 6000000) (hx : x ≤ 900) (hc : nc ≤ a + x) (hs : ns ≤ b + 6 * x)
    (k : ∀ u3 h nc ns, BO h o A pp ss bb tt tp er q dq → P2T h pp ss tt u u2 (pp 2 0) → (am_t h u3 = 20 ∧ am_l h u3 = 11 ∧ u2 + pp 2 0 < u3 ∧ u3 < am_n h) → nc ≤ a + (x + 3) → ns ≤ b + 6 * (x + 3) → ∀ {y24 y25 y26 y27 y28 y29 y30 y31 y32 y33 y34 y35 y36 y37 : AV}, WP (d + 10) 179 (821, [(4, 0), y1, (2, o), (2, 0), (0, pp 0 0), (0, pp 1 0), (0, pp 2 0), (0, (tm : Int)), (0, x8), (0, ss 0 0), (0, ss 1 0), (0, ss 2 0), (2, u), (0, l13), (0, l14), (0, l15), (0, l16), (2, u2), (0, ss 3 0), (0, s_nx pp (s_col pp ss) tt (-1)), (1, s_dg pp ss tt 0), (8, 0), (2, u3), (0, 6), y24, y25, y26, y27, y28, y29, y30, y31, y32, y33, y34, y35, y36, y37], [], h, nc, ns) K) :
    WP (d + 10) 179 (791, [(4, 0), y1, (2, o), (2, 0), (0, pp 0 0), (0, pp 1 0), (0, pp 2 0), (0, (tm : Int)), (0, x8), (0, ss 0 0), (0, ss 1 0), (0, ss 2 0), (2, u), (0, l13), (0, l14), (0, l15), (0, l16), (2, u2), y18, y19, y20, y21, y22, y23, y24, y25, y26, y27, y28, y29, y30, y31, y32, y33, y34, y35, y36, y37], [], h, nc, ns) K := by
  refine v179_791 ⟨⟨B.g.t0, by omega, by omega⟩, c107 (d := d + 5) B.g (fun _ => okx ⟨B.g.t0, c115 (d := d + 2) B.g (fun h2 f2 g2 => okx ⟨g2.t0, c126 (d := d + 1) g2 (fun h3 f3 g3 => okx ?_)⟩)⟩) (fun z => absurd (by decide) z)⟩
  have gn := g3.n
  have B2 := (B.cl f2 (by decide) (by decide) g2).cl f3 (by decide) (by decide) g3
  have Pp := P.p.b
  have P2 := (P.fx (FX.fr f2) (fun b hb => by omega) (by omega)).fx (FX.fr f3) (fun b hb => by omega) (by omega)
  refine ⟨⟨⟨by decide, Or.inr (by omega)⟩, by omega, by show ns + 6 + 11 ≤ _; omega⟩, by omega, k (am_n h3) _ _ _ (B2.hi FX.rf.al) (P2.fx (R := fun _ => False) FX.rf.al (fun b hb => hb.elim) (by omega)) ⟨if_pos rfl, if_pos rfl, P2.v.b.2.1, by show am_n h3 < am_n h3 + 1; omega⟩ (by omega) (by show ns + 6 + 11 ≤ _; omega)⟩
end
