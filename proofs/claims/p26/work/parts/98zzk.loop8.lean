/-! ===== the law's years: voters after a year, what could be bought ===== -/
theorem sm_ad2 {f g e : Int → Int} : ∀ {n : Nat}, (∀ i : Nat, i < n → f (i : Int) = g (i : Int) + e (i : Int)) → sm f n = sm g n + sm e n
  | 0, _ => rfl
  | n + 1, h => by
    have := sm_ad2 (f := f) (g := g) (e := e) (n := n) (fun i hi => h i (by omega))
    have := h n (by omega)
    rw [sm_succ, sm_succ, sm_succ]
    omega
theorem or01 {g : Int} (h : g = 0 ∨ g = 1) : am_or g 0 = g ∧ am_or g 1 = 1 := by
  rcases h with e | e <;> subst e <;> decide
section
variable {d : Nat} {o : Int} {A pp ss yy : TT} {bb : Int → Int → Int} {tt : Int → List Op} {tp : Int → Int} {er q dq x8 : Int} {tm : Nat} {K : AK} {a b : Nat}
variable {y1 y8 y9 y10 y11 y12 y13 y14 y15 y16 y17 y18 y19 y20 y21 y22 y23 y24 y25 y26 y27 y28 y29 y30 y31 y32 y33 y34 y35 y36 y37 : AV}
theorem P2T.av {h : AH} {u u2 i j : Int} (P : P2T h pp ss tt u u2 (pp 2 0)) (i0 : 0 ≤ i) (i1 : i < pp 2 0) (j0 : 0 ≤ j) (j1 : j < 4) : ((am_t h u2 = 24 ∨ am_t h u2 = 25) ∧ 0 ≤ i ∧ i < am_l h u2) ∧ (am_t h (am_m h u2 i) = 20 ∧ 0 ≤ j ∧ j < am_l h (am_m h u2 i)) ∧ am_m h (am_m h u2 i) j = s_ov pp ss i j := by
  obtain ⟨r1, r2, r3⟩ := P.v.r i i0 i1
  rw [P.v.t.1, P.v.t.2, r1, r2, r3]
  exact ⟨⟨Or.inl rfl, i0, i1⟩, ⟨rfl, j0, j1⟩, P.v.v i j i0 i1 j0 j1⟩
theorem y1509 {u u2 u3 u4 l13 l15 l16 l33 : Int} {x : Nat} (F : YF pp ss yy tt) (ha : a ≤ 90000) (hb : b ≤ 6000000) (hx : x ≤ 900) (h3 : u2 + pp 2 0 < u3) (v : Nat) (hv : (v : Int) < pp 2 0)
    (k : ∀ h nc ns, BO h o A pp yy bb tt tp er q dq → P2T h pp ss tt u u2 (pp 2 0) → Q4 h u3 u4 (pp 0 0) (fun w => sm (f_in pp ss yy w) (pp 1 0).toNat) → nc ≤ a + (x + 21) → ns ≤ b + 6 * (x + 21) → ∀ {y20 y21 y22 y23 y24 y25 y26 y35 y36 y37 : AV}, WP (d + 10) 179 (1436, [(4, 0), y1, (2, o), (2, 0), (0, pp 0 0), (0, pp 1 0), (0, pp 2 0), (0, (tm : Int)), (0, x8), (0, ss 0 0), (0, ss 1 0), (0, ss 2 0), (2, u), (0, l13), (0, s_bo pp ss), (0, l15), (0, l16), (2, u2), (0, ss 3 0), (0, s_nx pp (s_col pp ss) tt (-1)), y20, y21, y22, y23, y24, y25, y26, (0, s_bc pp yy - s_bc pp ss), (2, u4), (0, sm (f_nw ss yy) (pp 1 0).toNat), (0, sm (f_np ss yy) (pp 1 0).toNat), (0, sm (f_mr ss yy) (pp 1 0).toNat), (0, s_each pp ss), (0, l33), (0, ((v + 1 : Nat) : Int)), y35, y36, y37], [], h, nc, ns) K) :
    ∀ (n p : Nat), (p : Int) + (n : Int) = pp 1 0 → ∀ (h : AH) (nc ns : Nat) (g : Int), BO h o A pp yy bb tt tp er q dq → P2T h pp ss tt u u2 (pp 2 0) → Q4 h u3 u4 (pp 0 0) (fun w => sm (f_in pp ss yy w) (pp 1 0).toNat) → (g = 0 ∨ g = 1) → (g = 0 → ∀ j : Int, 0 ≤ j → j < (p : Int) → ¬ (ss 9 (12 * (v : Int) + j) = 1 ∧ yy 7 j = ss 0 0 ∧ yy 8 j = 1)) → nc ≤ a + (x + 3 * p) → ns ≤ b + 6 * (x + 3 * p) → WP (d + 10) 179 (1509, [(4, 0), y1, (2, o), (2, 0), (0, pp 0 0), (0, pp 1 0), (0, pp 2 0), (0, (tm : Int)), (0, x8), (0, ss 0 0), (0, ss 1 0), (0, ss 2 0), (2, u), (0, l13), (0, s_bo pp ss), (0, l15), (0, l16), (2, u2), (0, ss 3 0), (0, s_nx pp (s_col pp ss) tt (-1)), y20, y21, y22, y23, y24, y25, y26, (0, s_bc pp yy - s_bc pp ss), (2, u4), (0, sm (f_nw ss yy) (pp 1 0).toNat), (0, sm (f_np ss yy) (pp 1 0).toNat), (0, sm (f_mr ss yy) (pp 1 0).toNat), (0, s_each pp ss), (0, l33), (0, (v : Int)), (0, yy 5 (v : Int) - ss 5 (v : Int)), (0, g), (0, (p : Int))], [], h, nc, ns) K := by
  intro n
  induction n with
  | zero =>
    intro p hp h nc ns g B P Q g01 gz hc hs
    have hN := B.c.p1
    have fin : ∀ {y35 y36 y37 : AV}, WP (d + 10) 179 (1436, [(4, 0), y1, (2, o), (2, 0), (0, pp 0 0), (0, pp 1 0), (0, pp 2 0), (0, (tm : Int)), (0, x8), (0, ss 0 0), (0, ss 1 0), (0, ss 2 0), (2, u), (0, l13), (0, s_bo pp ss), (0, l15), (0, l16), (2, u2), (0, ss 3 0), (0, s_nx pp (s_col pp ss) tt (-1)), y20, y21, y22, y23, y24, y25, y26, (0, s_bc pp yy - s_bc pp ss), (2, u4), (0, sm (f_nw ss yy) (pp 1 0).toNat), (0, sm (f_np ss yy) (pp 1 0).toNat), (0, sm (f_mr ss yy) (pp 1 0).toNat), (0, s_each pp ss), (0, l33), (0, w32 ((v : Int) + 1)), y35, y36, y37], [], h, nc, ns) K := by
      intro y35 y36 y37
      rw [show w32 ((v : Int) + 1) = ((v + 1 : Nat) : Int) by rw [w32_id (by omega) (by omega)]; omega]
      exact k h nc ns B P Q (by omega) (by omega)
    refine v179_1509 ⟨fun z => absurd z (by omega), fun _ => ⟨fun z => ⟨fun y => ?_, fun _ => fin⟩, fun _ => fin⟩⟩
    obtain ⟨q, ⟨q0, q1⟩, q2, q3, q4⟩ := F.l (v : Int) (by omega) hv (by omega)
    exact absurd ⟨q2, q3, q4⟩ (gz z q q0 (by omega))
  | succ n ih =>
    intro p hp h nc ns g B P Q g01 gz hc hs
    have hN := B.c.p1
    have Pp := P.p.b
    have Pl := P.lt
    have Pv := P.v.b
    have Qb := Q.bd
    have p0 : 0 ≤ (p : Int) := by omega
    have p1 : (p : Int) < pp 1 0 := by omega
    obtain ⟨o0, o1⟩ := or01 g01
    have f9 := F.f (12 * (v : Int) + (p : Int))
    have s9 := F.I.fan (12 * (v : Int) + (p : Int))
    have skip : ¬ (ss 9 (12 * (v : Int) + (p : Int)) = 1 ∧ yy 7 (p : Int) = ss 0 0 ∧ yy 8 (p : Int) = 1) → ∀ (h : AH) (nc ns : Nat), BO h o A pp yy bb tt tp er q dq → P2T h pp ss tt u u2 (pp 2 0) → Q4 h u3 u4 (pp 0 0) (fun w => sm (f_in pp ss yy w) (pp 1 0).toNat) → nc ≤ a + (x + 3 * p + 3) → ns ≤ b + 6 * (x + 3 * p + 3) → WP (d + 10) 179 (1509, [(4, 0), y1, (2, o), (2, 0), (0, pp 0 0), (0, pp 1 0), (0, pp 2 0), (0, (tm : Int)), (0, x8), (0, ss 0 0), (0, ss 1 0), (0, ss 2 0), (2, u), (0, l13), (0, s_bo pp ss), (0, l15), (0, l16), (2, u2), (0, ss 3 0), (0, s_nx pp (s_col pp ss) tt (-1)), y20, y21, y22, y23, y24, y25, y26, (0, s_bc pp yy - s_bc pp ss), (2, u4), (0, sm (f_nw ss yy) (pp 1 0).toNat), (0, sm (f_np ss yy) (pp 1 0).toNat), (0, sm (f_mr ss yy) (pp 1 0).toNat), (0, s_each pp ss), (0, l33), (0, (v : Int)), (0, yy 5 (v : Int) - ss 5 (v : Int)), (0, am_or g 0), (0, w32 ((p : Int) + 1))], [], h, nc, ns) K := by
      intro z h nc ns B P Q hc hs
      rw [o0, show w32 ((p : Int) + 1) = ((p + 1 : Nat) : Int) by rw [w32_id (by omega) (by omega)]; omega]
      refine ih (p + 1) (by omega) h nc ns g B P Q g01 (fun y j j0 j1 => ?_) (by omega) (by omega)
      by_cases e : j = (p : Int)
      · rw [e]
        exact z
      · exact gz y j j0 (by omega)
    refine v179_1509 ⟨fun _ => ⟨⟨B.g.t0, by omega, by omega⟩, c113 (d := d + 8) B.g (fun _ => okx ⟨fun z => skip (fun w => by omega) h _ _ B P Q (by omega) (by omega), fun z => ⟨⟨B.g.t0, by omega, by omega⟩, c110 (d := d + 3) B.g (fun _ h2 f2 g2 => okx ⟨fun y => ⟨⟨g2.t0, by omega, by omega⟩, c110 (d := d + 3) g2 (fun _ h4 f4 g4 => okx ⟨fun y8 => ?_, fun y8 => ?_⟩) (fun z => absurd (show _ ∧ _ from ⟨⟨p0, p1⟩, by decide⟩) z)⟩, fun y => ?_⟩) (fun z => absurd (show _ ∧ _ from ⟨⟨p0, p1⟩, by decide⟩) z)⟩⟩) (fun z => absurd (show _ ∧ _ from ⟨⟨by omega, hv⟩, p0, p1⟩) z)⟩, fun z => absurd p1 z⟩
    · have B2 := B.cl f2 (by decide) (by decide) g2
      have P2 := P.fx (FX.fr f2) (fun b hb => by omega) (by omega)
      have Q2 := Q.fx (FX.fr f2) (by omega)
      rw [o1, show w32 ((p : Int) + 1) = ((p + 1 : Nat) : Int) by rw [w32_id (by omega) (by omega)]; omega]
      exact ih (p + 1) (by omega) h4 _ _ 1 (B2.cl f4 (by decide) (by decide) g4) (P2.fx (FX.fr f4) (fun b hb => by omega) (by omega)) (Q2.fx (FX.fr f4) (by omega)) (Or.inr rfl) (fun y => absurd y (by decide)) (by omega) (by omega)
    · have B2 := B.cl f2 (by decide) (by decide) g2
      have P2 := P.fx (FX.fr f2) (fun b hb => by omega) (by omega)
      have Q2 := Q.fx (FX.fr f2) (by omega)
      exact skip (fun w => y8 w.2.2) h4 _ _ (B2.cl f4 (by decide) (by decide) g4) (P2.fx (FX.fr f4) (fun b hb => by omega) (by omega)) (Q2.fx (FX.fr f4) (by omega)) (by omega) (by omega)
    · have B2 := B.cl f2 (by decide) (by decide) g2
      have P2 := P.fx (FX.fr f2) (fun b hb => by omega) (by omega)
      have Q2 := Q.fx (FX.fr f2) (by omega)
      exact skip (fun w => y w.2.1) h2 _ _ B2 P2 Q2 (by omega) (by omega)
theorem y1436 {u u2 u3 u4 l13 l15 l16 : Int} {x : Nat} (F : YF pp ss yy tt) (hS : SI pp ss) (s5 : ∀ v, 0 ≤ v → v < pp 2 0 → 0 ≤ ss 5 v ∧ ss 5 v ≤ 900000000) (ce : 0 ≤ s_each pp ss ∧ s_each pp ss ≤ 9999) (ha : a ≤ 90000) (hb : b ≤ 6000000) (hx : x ≤ 700) (h3 : u2 + pp 2 0 < u3)
    (k : ∀ h nc ns, BO h o A pp yy bb tt tp er q dq → P2T h pp ss tt u u2 (pp 2 0) → Q4 h u3 u4 (pp 0 0) (fun w => sm (f_in pp ss yy w) (pp 1 0).toNat) → nc ≤ a + (x + 161) → ns ≤ b + 6 * (x + 161) → ∀ {y20 y21 y22 y23 y24 y25 y26 y32 y33 y34 y35 y36 y37 : AV}, WP (d + 10) 179 (1596, [(4, 0), y1, (2, o), (2, 0), (0, pp 0 0), (0, pp 1 0), (0, pp 2 0), (0, (tm : Int)), (0, x8), (0, ss 0 0), (0, ss 1 0), (0, ss 2 0), (2, u), (0, l13), (0, s_bo pp ss), (0, l15), (0, l16), (2, u2), (0, ss 3 0), (0, s_nx pp (s_col pp ss) tt (-1)), y20, y21, y22, y23, y24, y25, y26, (0, s_bc pp yy - s_bc pp ss), (2, u4), (0, sm (f_nw ss yy) (pp 1 0).toNat), (0, sm (f_np ss yy) (pp 1 0).toNat), (0, sm (f_mr ss yy) (pp 1 0).toNat), y32, y33, y34, y35, y36, y37], [], h, nc, ns) K) :
    ∀ (n v : Nat), (v : Int) + (n : Int) = pp 2 0 → ∀ (h : AH) (nc ns : Nat), BO h o A pp yy bb tt tp er q dq → P2T h pp ss tt u u2 (pp 2 0) → Q4 h u3 u4 (pp 0 0) (fun w => sm (f_in pp ss yy w) (pp 1 0).toNat) → nc ≤ a + (x + 23 * v) → ns ≤ b + 6 * (x + 23 * v) → ∀ {y20 y21 y22 y23 y24 y25 y26 y35 y36 y37 : AV}, WP (d + 10) 179 (1436, [(4, 0), y1, (2, o), (2, 0), (0, pp 0 0), (0, pp 1 0), (0, pp 2 0), (0, (tm : Int)), (0, x8), (0, ss 0 0), (0, ss 1 0), (0, ss 2 0), (2, u), (0, l13), (0, s_bo pp ss), (0, l15), (0, l16), (2, u2), (0, ss 3 0), (0, s_nx pp (s_col pp ss) tt (-1)), y20, y21, y22, y23, y24, y25, y26, (0, s_bc pp yy - s_bc pp ss), (2, u4), (0, sm (f_nw ss yy) (pp 1 0).toNat), (0, sm (f_np ss yy) (pp 1 0).toNat), (0, sm (f_mr ss yy) (pp 1 0).toNat), (0, s_each pp ss), (0, sm (fun i => yy 5 i - ss 5 i) v), (0, (v : Int)), y35, y36, y37], [], h, nc, ns) K := by
  intro n
  have dl : ∀ i : Nat, (i : Int) < pp 2 0 → 0 ≤ yy 5 (i : Int) - ss 5 (i : Int) ∧ yy 5 (i : Int) - ss 5 (i : Int) ≤ 9999 := fun i hi => by
    have m := F.m (i : Int) (by omega) hi
    have y4 := F.I.purse (i := (i : Int)) (by omega) hi
    omega
  induction n with
  | zero =>
    intro v hv h nc ns B P Q hc hs
    intros
    have hN := B.c.p1
    have ev : v = (pp 2 0).toNat := by omega
    have a1 : sm (fun i => yy 5 i) v = sm (fun i => yy 5 i - ss 5 i) v + sm (fun i => ss 5 i) v := sm_ad2 (fun i hi => by
      show yy 5 (i : Int) = (yy 5 (i : Int) - ss 5 (i : Int)) + ss 5 (i : Int)
      omega)
    have a2 : sm (f_nw ss yy) (pp 1 0).toNat = sm (f_np ss yy) (pp 1 0).toNat + sm (f_nq ss yy) (pp 1 0).toNat := sm_ad2 (fun i hi => by
      unfold f_nw f_np f_nq
      by_cases z : ss 7 (i : Int) = -1 ∧ ¬ yy 7 (i : Int) = -1
      · by_cases z2 : yy 8 (i : Int) = 0
        · rw [if_pos z, if_pos ⟨z.1, z.2, z2⟩, if_neg (fun y => y.2.2 z2)]
          omega
        · rw [if_pos z, if_neg (fun y => z2 y.2.2), if_pos ⟨z.1, z.2, z2⟩]
          omega
      · rw [if_neg z, if_neg (fun y => z ⟨y.1, y.2.1⟩), if_neg (fun y => z ⟨y.1, y.2.1⟩)]
        omega)
    have a3 := F.z
    rw [← ev] at a3
    have db := sm_bd (f := fun i => yy 5 i - ss 5 i) (B := 9999) (n := v) (fun i hi => dl i (by omega))
    have eq : sm (fun i => yy 5 i - ss 5 i) v = w32 (sm (f_nw ss yy) (pp 1 0).toNat - sm (f_np ss yy) (pp 1 0).toNat) := by
      rw [w32_id (x := sm (f_nw ss yy) (pp 1 0).toNat - sm (f_np ss yy) (pp 1 0).toNat) (by omega) (by omega)]
      omega
    exact v179_1436 ⟨fun z => absurd z (by omega), fun _ => ⟨fun _ => k h nc ns B P Q (by omega) (by omega), fun z => absurd eq z⟩⟩
  | succ n ih =>
    intro v hv h nc ns B P Q hc hs
    intros
    have hN := B.c.p1
    have v0 : 0 ≤ (v : Int) := by omega
    have v1 : (v : Int) < pp 2 0 := by omega
    have m := F.m (v : Int) v0 v1
    have y4 := F.I.purse (i := (v : Int)) v0 v1
    have s4 := hS.purse (i := (v : Int)) v0 v1
    have s5v := s5 (v : Int) v0 v1
    have db := sm_bd (f := fun i => yy 5 i - ss 5 i) (B := 9999) (n := v) (fun i hi => dl i (by omega))
    have x3 := P.av (i := (v : Int)) (j := 3) v0 v1 (by decide) (by decide)
    have x0 := P.av (i := (v : Int)) (j := 0) v0 v1 (by decide) (by decide)
    have e3 : s_ov pp ss (v : Int) 3 = ss 5 (v : Int) := rfl
    have e0 : s_ov pp ss (v : Int) 0 = ss 4 (v : Int) := rfl
    have f3 : s_ov pp yy (v : Int) 3 = yy 5 (v : Int) := rfl
    have f0 : s_ov pp yy (v : Int) 0 = yy 4 (v : Int) := rfl
    have z3 := x3.2.2
    have z0 := x0.2.2
    rw [e3] at z3
    rw [e0] at z0
    refine v179_1436 ⟨fun _ => ⟨⟨B.g.t0, by omega, by omega⟩, c112 (d := d + 6) B.g (fun _ => okx ⟨x3.1, x3.2.1, ?_⟩) (fun z => absurd (show _ ∧ _ from ⟨⟨v0, v1⟩, by decide⟩) z)⟩, fun z => absurd v1 z⟩
    rw [f3, z3, w32_id (x := yy 5 (v : Int) - ss 5 (v : Int)) (by omega) (by omega)]
    refine ⟨fun z => absurd z (by omega), fun _ => ⟨⟨B.g.t0, by omega, by omega⟩, c112 (d := d + 6) B.g (fun _ => okx ⟨x0.1, x0.2.1, ?_⟩) (fun z => absurd (show _ ∧ _ from ⟨⟨v0, v1⟩, by decide⟩) z)⟩⟩
    rw [f0, z0, w32_id (x := ss 4 (v : Int) + s_each pp ss) (by omega) (by omega), w32_id (x := min 9999 (ss 4 (v : Int) + s_each pp ss) - (yy 5 (v : Int) - ss 5 (v : Int))) (by omega) (by omega), w32_id (x := sm (fun i => yy 5 i - ss 5 i) v + (yy 5 (v : Int) - ss 5 (v : Int))) (by omega) (by omega)]
    refine ⟨fun _ => ?_, fun z => absurd (by omega) z⟩
    have es : sm (fun i => yy 5 i - ss 5 i) v + (yy 5 (v : Int) - ss 5 (v : Int)) = sm (fun i => yy 5 i - ss 5 i) (v + 1) := rfl
    rw [es]
    refine y1509 (x := x + 23 * v + 2) F ha hb (by omega) h3 v v1 ?_ (pp 1 0).toNat 0 (by omega) h _ _ 0 B P Q (Or.inl rfl) (fun _ j j0 j1 => absurd j1 (by omega)) (by omega) (by omega)
    intro h2 nc2 ns2 B2 P2 Q2 hc2 hs2
    intros
    exact ih (v + 1) (by omega) h2 nc2 ns2 B2 P2 Q2 (by omega) (by omega)
theorem y1610 {u u2 u3 u4 l13 l15 l16 : Int} {x : Nat} (F : YF pp ss yy tt) (hS : SI pp ss) (b0 : pp 3 0 = 0) (ha : a ≤ 90000) (hb : b ≤ 6000000) (hx : x ≤ 900) (h3 : u2 + pp 2 0 < u3)
    (k : ∀ h nc ns, BO h o A pp yy bb tt tp er q dq → nc ≤ a + (x + 28) → ns ≤ b + 6 * (x + 28) → ∀ {y8 y9 y10 y11 y12 y13 y14 y15 y16 y17 y18 y19 y20 y21 y22 y23 y24 y25 y26 y27 y28 y29 y30 y31 y32 y33 y34 y35 y36 y37 : AV}, WP (d + 10) 179 (1697, [(4, 0), y1, (2, o), (2, 0), (0, pp 0 0), (0, pp 1 0), (0, pp 2 0), (0, (tm : Int)), y8, y9, y10, y11, y12, y13, y14, y15, y16, y17, y18, y19, y20, y21, y22, y23, y24, y25, y26, y27, y28, y29, y30, y31, y32, y33, y34, y35, y36, y37], [], h, nc, ns) K) :
    ∀ (n p : Nat), (p : Int) + (n : Int) = pp 1 0 → ∀ (h : AH) (nc ns : Nat), BO h o A pp yy bb tt tp er q dq → P2T h pp ss tt u u2 (pp 2 0) → Q4 h u3 u4 (pp 0 0) (fun w => sm (f_in pp ss yy w) (pp 1 0).toNat) → nc ≤ a + (x + 4 * p) → ns ≤ b + 6 * (x + 4 * p) → ∀ {y20 y21 y22 y23 y24 y25 y26 y32 y33 y35 y36 y37 : AV}, WP (d + 10) 179 (1610, [(4, 0), y1, (2, o), (2, 0), (0, pp 0 0), (0, pp 1 0), (0, pp 2 0), (0, (tm : Int)), (0, x8), (0, ss 0 0), (0, ss 1 0), (0, ss 2 0), (2, u), (0, l13), (0, s_bo pp ss), (0, l15), (0, l16), (2, u2), (0, ss 3 0), (0, s_nx pp (s_col pp ss) tt (-1)), y20, y21, y22, y23, y24, y25, y26, (0, s_bc pp yy - s_bc pp ss), (2, u4), (0, sm (f_nw ss yy) (pp 1 0).toNat), (0, sm (f_np ss yy) (pp 1 0).toNat), (0, sm (f_mr ss yy) (pp 1 0).toNat), y32, y33, (0, (p : Int)), y35, y36, y37], [], h, nc, ns) K := by
  intro n
  induction n with
  | zero =>
    intro p hp h nc ns B P Q hc hs
    intros
    have hN := B.c.p1
    exact v179_1610 ⟨fun z => absurd z (by omega), fun _ => k h nc ns B (by omega) (by omega)⟩
  | succ n ih =>
    intro p hp h nc ns B P Q hc hs
    intros
    have hN := B.c.p1
    have hI := B.c.pi
    have Pp := P.p.b
    have Pl := P.lt
    have Pv := P.v.b
    have Qb := Q.bd
    have p0 : 0 ≤ (p : Int) := by omega
    have p1 : (p : Int) < pp 1 0 := by omega
    have w5 := hI.ward p0 p1
    have sI := F.I.built p0 p1
    have nx : ∀ (h : AH) (nc ns : Nat), BO h o A pp yy bb tt tp er q dq → P2T h pp ss tt u u2 (pp 2 0) → Q4 h u3 u4 (pp 0 0) (fun w => sm (f_in pp ss yy w) (pp 1 0).toNat) → nc ≤ a + (x + 4 * p + 4) → ns ≤ b + 6 * (x + 4 * p + 4) → ∀ {y20 y21 y22 y23 y24 y25 y26 y32 y33 y35 y36 y37 : AV}, WP (d + 10) 179 (1610, [(4, 0), y1, (2, o), (2, 0), (0, pp 0 0), (0, pp 1 0), (0, pp 2 0), (0, (tm : Int)), (0, x8), (0, ss 0 0), (0, ss 1 0), (0, ss 2 0), (2, u), (0, l13), (0, s_bo pp ss), (0, l15), (0, l16), (2, u2), (0, ss 3 0), (0, s_nx pp (s_col pp ss) tt (-1)), y20, y21, y22, y23, y24, y25, y26, (0, s_bc pp yy - s_bc pp ss), (2, u4), (0, sm (f_nw ss yy) (pp 1 0).toNat), (0, sm (f_np ss yy) (pp 1 0).toNat), (0, sm (f_mr ss yy) (pp 1 0).toNat), y32, y33, (0, w32 ((p : Int) + 1)), y35, y36, y37], [], h, nc, ns) K := by
      intro h nc ns B P Q hc hs
      intros
      rw [show w32 ((p : Int) + 1) = ((p + 1 : Nat) : Int) by rw [w32_id (by omega) (by omega)]; omega]
      exact ih (p + 1) (by omega) h nc ns B P Q (by omega) (by omega)
    refine v179_1610 ⟨fun _ => ⟨⟨B.g.t0, by omega, by omega⟩, c110 (d := d + 3) B.g (fun _ h2 f2 g2 => okx ?_) (fun z => absurd (show _ ∧ _ from ⟨⟨p0, p1⟩, by decide⟩) z)⟩, fun z => absurd p1 z⟩
    have B2 := B.cl f2 (by decide) (by decide) g2
    have P2 := P.fx (FX.fr f2) (fun b hb => by omega) (by omega)
    have Q2 := Q.fx (FX.fr f2) (by omega)
    have e7 : s_op pp yy tt (p : Int) 4 = yy 7 (p : Int) := rfl
    rw [e7]
    have x1 := P2.at (i := (p : Int)) (j := 1) p0 p1 (by decide) (by decide)
    have z1 : am_m h2 (am_m h2 u (p : Int)) 1 = pp 5 (p : Int) := x1.2.2.trans rfl
    have zq : am_m h2 u4 (pp 5 (p : Int)) = sm (f_in pp ss yy (pp 5 (p : Int))) (pp 1 0).toNat := Q2.v _ w5.1 w5.2
    refine ⟨fun z => ⟨x1.1, x1.2.1, ?_⟩, fun _ => nx h2 _ _ B2 P2 Q2 (by omega) (by omega)⟩
    rw [z1, zq, Q2.t.1, Q2.t.2]
    refine ⟨⟨rfl, w5.1, w5.2⟩, x1.1, ?_, ⟨g2.t0, by omega, by omega⟩, c109 (d := d + 7) g2 (fun _ => okx ⟨fun y => ⟨⟨g2.t0, by omega, by omega⟩, c110 (d := d + 3) g2 (fun _ h4 f4 g4 => okx ?_) (fun z => absurd (show _ ∧ _ from ⟨⟨p0, p1⟩, by decide⟩) z)⟩, fun _ => nx h2 _ _ B2 P2 Q2 (by omega) (by omega)⟩) (fun z => absurd (show _ ∧ _ from ⟨w5, by decide⟩) z)⟩
    · exact x1.2.1
    · have B4 := B2.cl f4 (by decide) (by decide) g4
      have P4 := P2.fx (FX.fr f4) (fun b hb => by omega) (by omega)
      have Q4' := Q2.fx (FX.fr f4) (by omega)
      have x0 := P4.at (i := (p : Int)) (j := 0) p0 p1 (by decide) (by decide)
      have z0 : am_m h4 (am_m h4 u (p : Int)) 0 = ss 6 (p : Int) := x0.2.2.trans rfl
      have e4 : s_ow pp yy (pp 5 (p : Int)) 0 = pp 4 (pp 5 (p : Int)) := rfl
      rw [e4] at y
      have fd := F.d b0 (p : Int) p0 p1 (by omega) y
      have e8 : s_op pp yy tt (p : Int) 7 = s_cf pp yy (p : Int) := rfl
      have e6 : s_ct pp yy 0 6 = yy 2 0 := rfl
      rw [e8, z0]
      exact ⟨x0.1, x0.2.1, fun _ => ⟨x0.1, x0.2.1, ⟨g4.t0, by omega, by omega⟩, c107 (d := d + 5) g4 (fun _ => okx ⟨fun _ => nx h4 _ _ B4 P4 Q4' (by omega) (by omega), fun w => absurd (by rw [e6]; exact fd.2) w⟩) (fun z => absurd (by decide) z)⟩, fun w => absurd fd.1 w⟩
theorem y1596 {u u2 u3 u4 l13 l15 l16 : Int} {x : Nat} (F : YF pp ss yy tt) (hS : SI pp ss) (ha : a ≤ 90000) (hb : b ≤ 6000000) (hx : x ≤ 890) (h3 : u2 + pp 2 0 < u3) {h : AH} {nc ns : Nat} (B : BO h o A pp yy bb tt tp er q dq) (P : P2T h pp ss tt u u2 (pp 2 0)) (Q : Q4 h u3 u4 (pp 0 0) (fun w => sm (f_in pp ss yy w) (pp 1 0).toNat)) (hc : nc ≤ a + x) (hs : ns ≤ b + 6 * x)
    (k : ∀ h nc ns, BO h o A pp yy bb tt tp er q dq → nc ≤ a + (x + 29) → ns ≤ b + 6 * (x + 29) → ∀ {y8 y9 y10 y11 y12 y13 y14 y15 y16 y17 y18 y19 y20 y21 y22 y23 y24 y25 y26 y27 y28 y29 y30 y31 y32 y33 y34 y35 y36 y37 : AV}, WP (d + 10) 179 (1697, [(4, 0), y1, (2, o), (2, 0), (0, pp 0 0), (0, pp 1 0), (0, pp 2 0), (0, (tm : Int)), y8, y9, y10, y11, y12, y13, y14, y15, y16, y17, y18, y19, y20, y21, y22, y23, y24, y25, y26, y27, y28, y29, y30, y31, y32, y33, y34, y35, y36, y37], [], h, nc, ns) K) :
    WP (d + 10) 179 (1596, [(4, 0), y1, (2, o), (2, 0), (0, pp 0 0), (0, pp 1 0), (0, pp 2 0), (0, (tm : Int)), (0, x8), (0, ss 0 0), (0, ss 1 0), (0, ss 2 0), (2, u), (0, l13), (0, s_bo pp ss), (0, l15), (0, l16), (2, u2), (0, ss 3 0), (0, s_nx pp (s_col pp ss) tt (-1)), y20, y21, y22, y23, y24, y25, y26, (0, s_bc pp yy - s_bc pp ss), (2, u4), (0, sm (f_nw ss yy) (pp 1 0).toNat), (0, sm (f_np ss yy) (pp 1 0).toNat), (0, sm (f_mr ss yy) (pp 1 0).toNat), y32, y33, y34, y35, y36, y37], [], h, nc, ns) K := by
  have nb := B.c.pi.nb
  have hN := B.c.p1
  have e4 : s_ct pp yy 0 4 = pp 3 0 := rfl
  refine v179_1596 ⟨⟨B.g.t0, by omega, by omega⟩, c107 (d := d + 5) B.g (fun _ => okx ⟨fun _ => k h _ _ B (by omega) (by omega), fun z => ?_⟩) (fun z => absurd (by decide) z)⟩
  rw [e4] at z
  exact y1610 (x := x + 1) F hS (by omega) ha hb (by omega) h3 (fun h nc ns B hc hs => k h nc ns B (by omega) (by omega)) (pp 1 0).toNat 0 (by omega) h _ _ B P Q (by omega) (by omega)
end
