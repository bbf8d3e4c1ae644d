/-! ===== the law's years: a project looked at ===== -/
section
variable {d : Nat} {o : Int} {A pp ss : TT} {bb : Int → Int → Int} {tt : Int → List Op} {tp : Int → Int} {er q dq x8 : Int} {tm : Nat} {K : AK} {a b : Nat}
variable {y1 y9 y10 y11 y12 y13 y14 y15 y16 y17 y18 y19 y20 y21 y22 y23 y24 y25 y26 y27 y28 y29 y30 y31 y32 y33 y34 y35 y36 y37 : AV}
theorem y252 {u l13 l14 : Int} {h : AH} {nc ns : Nat} (B : BO h o A pp ss bb tt tp er q dq) (p : Nat) (hp : (p : Int) < pp 1 0) (P : PT h u (pp 1 0) 8 (fun i t => s_op pp ss tt i t) ((p : Int) + 1)) (c13 : 0 ≤ l13 ∧ l13 ≤ 100) (c14 : 0 ≤ l14 ∧ l14 ≤ 100)
    (k : ∀ {y19 y20 y21 y22 y23 y24 y25 y26 y27 y28 y29 y30 y31 y32 y33 y34 y35 y36 y37 : AV}, WP (d + 10) 179 (340, [(4, 0), y1, (2, o), (2, 0), (0, pp 0 0), (0, pp 1 0), (0, pp 2 0), (0, (tm : Int)), (0, x8), (0, ss 0 0), (0, ss 1 0), (0, ss 2 0), (2, u), (0, l13 + f_bc ss (p : Int)), (0, l14 + f_bo ss (p : Int)), (0, (p : Int)), (2, u + 1 + (p : Int)), (0, s_nf pp ss (p : Int)), (0, s_cf pp ss (p : Int)), y19, y20, y21, y22, y23, y24, y25, y26, y27, y28, y29, y30, y31, y32, y33, y34, y35, y36, y37], [], h, nc, ns) K) :
    WP (d + 10) 179 (252, [(4, 0), y1, (2, o), (2, 0), (0, pp 0 0), (0, pp 1 0), (0, pp 2 0), (0, (tm : Int)), (0, x8), (0, ss 0 0), (0, ss 1 0), (0, ss 2 0), (2, u), (0, l13), (0, l14), (0, (p : Int)), (2, u + 1 + (p : Int)), (0, s_nf pp ss (p : Int)), (0, s_cf pp ss (p : Int)), y19, y20, y21, y22, y23, y24, y25, y26, y27, y28, y29, y30, y31, y32, y33, y34, y35, y36, y37], [], h, nc, ns) K := by
  obtain ⟨q1, q2, q3⟩ := P.r (p : Int) (by omega) hp
  have e0 : am_m h (u + 1 + (p : Int)) 0 = ss 6 (p : Int) := (P.v (p : Int) 0 (by omega) (by omega) (by decide) (by decide)).trans rfl
  have e3 : am_m h (u + 1 + (p : Int)) 3 = s_nf pp ss (p : Int) := (P.v (p : Int) 3 (by omega) (by omega) (by decide) (by decide)).trans rfl
  have e4 : am_m h (u + 1 + (p : Int)) 4 = ss 7 (p : Int) := (P.v (p : Int) 4 (by omega) (by omega) (by decide) (by decide)).trans rfl
  have e5 : am_m h (u + 1 + (p : Int)) 5 = ss 8 (p : Int) := (P.v (p : Int) 5 (by omega) (by omega) (by decide) (by decide)).trans rfl
  have e7 : am_m h (u + 1 + (p : Int)) 7 = s_cf pp ss (p : Int) := (P.v (p : Int) 7 (by omega) (by omega) (by decide) (by decide)).trans rfl
  have hS := B.c.si
  have c6 := hS.cost (i := (p : Int)) (by omega) hp
  have c7 := hS.built (i := (p : Int)) (by omega) hp
  have c8 := hS.bought (i := (p : Int)) (by omega) hp
  have hb : ss 7 (p : Int) < ss 0 0 := B.g.hb (p : Int) (by omega) hp
  have sb := B.g.sb (p : Int) (by omega) hp
  have fo : f_bo ss (p : Int) = ss 8 (p : Int) := rfl
  rw [fo] at k
  refine v179_252 ?_
  rw [q2, q3, e0, e3, e4, e5, e7]
  refine ⟨⟨rfl, by decide, by decide⟩, fun y => ?_, fun y => ?_⟩
  · have e8 : ss 8 (p : Int) = 0 := by
      rcases c8 with z | z
      · exact z
      · exact absurd (sb z) (by omega)
    have fb : f_bc ss (p : Int) = 0 := if_pos (by omega)
    rw [fb] at k
    rw [w32_id (x := l13 + 0) (by omega) (by omega), w32_id (x := l14 + ss 8 (p : Int)) (by omega) (by omega)]
    exact ⟨⟨rfl, by decide, by decide⟩, ⟨rfl, by decide, by decide⟩, fun z => absurd z (by omega), fun _ => ⟨⟨rfl, by decide, by decide⟩, fun z => absurd z (by omega), fun _ => ⟨⟨rfl, by decide, by decide⟩, ⟨fun _ => ⟨⟨rfl, by decide, by decide⟩, ⟨fun _ => ⟨⟨rfl, by decide, by decide⟩, ⟨fun _ => ⟨⟨rfl, by decide, by decide⟩, ⟨fun _ => ⟨⟨rfl, by decide, by decide⟩, ⟨fun _ => k, fun z => absurd e8 z⟩⟩, fun z => absurd y z⟩⟩, fun z => absurd hb z⟩⟩, fun z => absurd rfl z⟩⟩, fun z => absurd rfl z⟩⟩⟩⟩
  · have fb : f_bc ss (p : Int) = 1 := if_neg (by omega)
    rw [fb] at k
    rw [w32_id (x := l13 + 1) (by omega) (by omega), w32_id (x := l14 + ss 8 (p : Int)) (by omega) (by omega)]
    exact ⟨⟨rfl, by decide, by decide⟩, ⟨rfl, by decide, by decide⟩, fun z => absurd z (by omega), fun _ => ⟨⟨rfl, by decide, by decide⟩, fun z => absurd z (by omega), fun _ => ⟨⟨rfl, by decide, by decide⟩, ⟨fun _ => ⟨⟨rfl, by decide, by decide⟩, ⟨fun _ => ⟨⟨rfl, by decide, by decide⟩, ⟨fun _ => ⟨⟨rfl, by decide, by decide⟩, ⟨fun z => absurd z y, fun _ => k⟩⟩, fun z => absurd hb z⟩⟩, fun z => absurd rfl z⟩⟩, fun z => absurd rfl z⟩⟩⟩⟩
theorem y394 {u l13 l14 sh : Int} {x : Nat} {h : AH} (B : BO h o A pp ss bb tt tp er q dq) (ha : a ≤ 90000) (hb : b ≤ 6000000) (hx : x ≤ 1000) (p : Nat) (hp : (p : Int) < pp 1 0) (P : PT h u (pp 1 0) 8 (fun i t => s_op pp ss tt i t) ((p : Int) + 1)) (h1 : 1 ≤ sh ∧ sh ≤ 9999) (h2 : ss 6 (p : Int) ≤ s_tg pp ss (p : Int) sh) (h3 : s_tg pp ss (p : Int) (sh - 1) < ss 6 (p : Int))
    (k : ∀ nc ns, nc ≤ a + (x + 21) → ns ≤ b + 6 * (x + 21) → ∀ {y16 y17 y18 y19 y20 y21 y22 y23 y24 y25 y26 y27 y28 y29 y30 y31 y32 y33 y34 y35 y36 y37 : AV}, WP (d + 10) 179 (483, [(4, 0), y1, (2, o), (2, 0), (0, pp 0 0), (0, pp 1 0), (0, pp 2 0), (0, (tm : Int)), (0, x8), (0, ss 0 0), (0, ss 1 0), (0, ss 2 0), (2, u), (0, l13), (0, l14), (0, (p : Int)), y16, y17, y18, y19, y20, y21, y22, y23, y24, y25, y26, y27, y28, y29, y30, y31, y32, y33, y34, y35, y36, y37], [], h, nc, ns) K) :
    ∀ (n v : Nat), v + n = (pp 2 0).toNat → ∀ (nc ns : Nat), nc ≤ a + (x + 3 * v) → ns ≤ b + 6 * (x + 3 * v) → WP (d + 10) 179 (394, [(4, 0), y1, (2, o), (2, 0), (0, pp 0 0), (0, pp 1 0), (0, pp 2 0), (0, (tm : Int)), (0, x8), (0, ss 0 0), (0, ss 1 0), (0, ss 2 0), (2, u), (0, l13), (0, l14), (0, (p : Int)), (2, u + 1 + (p : Int)), y17, y18, (0, sh), (0, sm (f_tg ss (p : Int) sh) v), (0, sm (f_tg ss (p : Int) (sh - 1)) v), (0, (v : Int)), y23, y24, y25, y26, y27, y28, y29, y30, y31, y32, y33, y34, y35, y36, y37], [], h, nc, ns) K := by
  intro n
  have hN := B.c.p1
  have hS := B.c.si
  induction n with
  | zero =>
    intro v hv nc ns hc hs
    have e : v = (pp 2 0).toNat := by omega
    obtain ⟨q1, q2, q3⟩ := P.r (p : Int) (by omega) hp
    have e0 : am_m h (u + 1 + (p : Int)) 0 = ss 6 (p : Int) := (P.v (p : Int) 0 (by omega) (by omega) (by decide) (by decide)).trans rfl
    have t1 : sm (f_tg ss (p : Int) sh) v = s_tg pp ss (p : Int) sh := by rw [e]; rfl
    have t2 : sm (f_tg ss (p : Int) (sh - 1)) v = s_tg pp ss (p : Int) (sh - 1) := by rw [e]; rfl
    rw [t1, t2]
    refine v179_394 ⟨fun z => absurd z (by omega), fun _ => ?_⟩
    rw [q2, q3, e0]
    exact ⟨⟨rfl, by decide, by decide⟩, fun z => absurd z (by omega), fun _ => ⟨⟨rfl, by decide, by decide⟩, fun _ => ⟨fun z => absurd z (by omega), fun _ => k nc ns (by omega) (by omega)⟩, fun z => absurd h3 z⟩⟩
  | succ n ih =>
    intro v hv nc ns hc hs
    have s4 := hS.purse (i := (v : Int)) (by omega) (by omega)
    have tb : ∀ w : Int, 0 ≤ w → w ≤ 9999 → 0 ≤ sm (f_tg ss (p : Int) w) v ∧ sm (f_tg ss (p : Int) w) v ≤ 9999 * (v : Int) := fun w w0 w1 => sm_bd (f := f_tg ss (p : Int) w) (B := 9999) (n := v) (fun i hi => by
      have := hS.purse (i := (i : Int)) (by omega) (by omega)
      unfold f_tg
      split <;> omega)
    have b1 := tb sh (by omega) (by omega)
    have b2 := tb (sh - 1) (by omega) (by omega)
    have go : ∀ c e : Int, c = f_tg ss (p : Int) sh (v : Int) → e = f_tg ss (p : Int) (sh - 1) (v : Int) → ∀ nc2 ns2, nc2 ≤ nc + 3 → ns2 ≤ ns + 18 → WP (d + 10) 179 (394, [(4, 0), y1, (2, o), (2, 0), (0, pp 0 0), (0, pp 1 0), (0, pp 2 0), (0, (tm : Int)), (0, x8), (0, ss 0 0), (0, ss 1 0), (0, ss 2 0), (2, u), (0, l13), (0, l14), (0, (p : Int)), (2, u + 1 + (p : Int)), y17, y18, (0, sh), (0, sm (f_tg ss (p : Int) sh) v + c), (0, sm (f_tg ss (p : Int) (sh - 1)) v + e), (0, w32 ((v : Int) + 1)), y23, y24, y25, y26, y27, y28, y29, y30, y31, y32, y33, y34, y35, y36, y37], [], h, nc2, ns2) K := by
      intro c e ec ee nc2 ns2 h1 h2
      rw [ec, ee, show w32 ((v : Int) + 1) = ((v + 1 : Nat) : Int) by rw [w32_id (by omega) (by omega)]; omega]
      exact ih (v + 1) (by omega) nc2 ns2 (by omega) (by omega)
    refine v179_394 ⟨fun _ => ⟨⟨B.g.t0, by omega, by omega⟩, c113 (d := d + 8) B.g (fun _ => okx ⟨fun z => ?_, fun z => ⟨⟨B.g.t0, by omega, by omega⟩, c112 (d := d + 6) B.g (fun _ => okx ⟨⟨B.g.t0, by omega, by omega⟩, c112 (d := d + 6) B.g (fun _ => okx ?_) (fun z => absurd (show _ ∧ _ from ⟨⟨by omega, by omega⟩, by decide⟩) z)⟩) (fun z => absurd (show _ ∧ _ from ⟨⟨by omega, by omega⟩, by decide⟩) z)⟩⟩) (fun z => absurd (show _ ∧ _ from ⟨⟨by omega, by omega⟩, by omega, hp⟩) z)⟩, fun z => absurd (show (v : Int) < pp 2 0 by omega) z⟩
    · have := go 0 0 (by unfold f_tg; rw [if_pos z]) (by unfold f_tg; rw [if_pos z]) (nc + 1) (ns + 6) (by omega) (by omega)
      rw [Int.add_zero, Int.add_zero] at this
      exact this
    · have e4 : s_ov pp ss (v : Int) 0 = ss 4 (v : Int) := rfl
      have := go (min sh (ss 4 (v : Int))) (min (sh - 1) (ss 4 (v : Int))) (by unfold f_tg; rw [if_neg z]) (by unfold f_tg; rw [if_neg z]) (nc + 1 + 1 + 1) (ns + 6 + 6 + 6) (by omega) (by omega)
      rw [e4, w32_id (x := sh - 1) (by omega) (by omega), w32_id (x := sm (f_tg ss (p : Int) sh) v + min sh (ss 4 (v : Int))) (by omega) (by omega), w32_id (x := sm (f_tg ss (p : Int) (sh - 1)) v + min (sh - 1) (ss 4 (v : Int))) (by omega) (by omega)]
      exact this
theorem y340 {u l13 l14 l17 : Int} {x : Nat} {h : AH} {nc ns : Nat} (B : BO h o A pp ss bb tt tp er q dq) (ha : a ≤ 90000) (hb : b ≤ 6000000) (hx : x ≤ 900) (p : Nat) (hp : (p : Int) < pp 1 0) (P : PT h u (pp 1 0) 8 (fun i t => s_op pp ss tt i t) ((p : Int) + 1)) (hc : nc ≤ a + x) (hs : ns ≤ b + 6 * x)
    (k : ∀ nc ns, nc ≤ a + (x + 22) → ns ≤ b + 6 * (x + 22) → ∀ {y16 y17 y18 y19 y20 y21 y22 y23 y24 y25 y26 y27 y28 y29 y30 y31 y32 y33 y34 y35 y36 y37 : AV}, WP (d + 10) 179 (483, [(4, 0), y1, (2, o), (2, 0), (0, pp 0 0), (0, pp 1 0), (0, pp 2 0), (0, (tm : Int)), (0, x8), (0, ss 0 0), (0, ss 1 0), (0, ss 2 0), (2, u), (0, l13), (0, l14), (0, (p : Int)), y16, y17, y18, y19, y20, y21, y22, y23, y24, y25, y26, y27, y28, y29, y30, y31, y32, y33, y34, y35, y36, y37], [], h, nc, ns) K) :
    WP (d + 10) 179 (340, [(4, 0), y1, (2, o), (2, 0), (0, pp 0 0), (0, pp 1 0), (0, pp 2 0), (0, (tm : Int)), (0, x8), (0, ss 0 0), (0, ss 1 0), (0, ss 2 0), (2, u), (0, l13), (0, l14), (0, (p : Int)), (2, u + 1 + (p : Int)), (0, l17), (0, s_cf pp ss (p : Int)), y19, y20, y21, y22, y23, y24, y25, y26, y27, y28, y29, y30, y31, y32, y33, y34, y35, y36, y37], [], h, nc, ns) K := by
  obtain ⟨q1, q2, q3⟩ := P.r (p : Int) (by omega) hp
  have e0 : am_m h (u + 1 + (p : Int)) 0 = ss 6 (p : Int) := (P.v (p : Int) 0 (by omega) (by omega) (by decide) (by decide)).trans rfl
  have hS := B.c.si
  have c6 := hS.cost (i := (p : Int)) (by omega) hp
  have ct := cf_tg (p := (p : Int)) hS
  refine v179_340 ⟨⟨B.g.t0, by omega, by omega⟩, c111 (d := d + 6) B.g (fun _ => okx ?_) (fun z => absurd (show _ ∧ _ from ⟨by omega, hp⟩) z)⟩
  rw [q2, q3, e0]
  by_cases y : s_tg pp ss (p : Int) 9999 < ss 6 (p : Int)
  · have es : s_sh pp ss (p : Int) = -1 := if_pos y
    rw [es, ct]
    exact ⟨fun _ => ⟨⟨rfl, by decide, by decide⟩, fun _ => ⟨fun _ => v179_377 ⟨fun _ => k _ _ (by omega) (by omega), fun z => absurd (by decide) z⟩, fun z => absurd rfl z⟩, fun z => absurd y z⟩, fun z => absurd (by decide) z⟩
  · obtain ⟨t, es, t1, t2, t3, t4⟩ := s_sh_spec y c6.1
    have h0 : s_tg pp ss (p : Int) (t - 1) < ss 6 (p : Int) := by
      by_cases e : t = 1
      · have z := sm_bd (f := f_tg ss (p : Int) (t - 1)) (B := 0) (n := (pp 2 0).toNat) (fun i hi => by
          have := hS.purse (i := (i : Int)) (by omega) (by omega)
          unfold f_tg
          split <;> omega)
        have z2 : s_tg pp ss (p : Int) (t - 1) = sm (f_tg ss (p : Int) (t - 1)) (pp 2 0).toNat := rfl
        omega
      · exact t4 (t - 1) (by omega) (by omega)
    rw [es, ct]
    exact ⟨fun z => absurd z (by omega), fun _ => ⟨⟨rfl, by decide, by decide⟩, fun z => absurd z y, fun _ => ⟨fun _ => v179_377 ⟨fun z => absurd z (by omega), fun _ => y394 (x := x + 1) B ha hb (by omega) p hp P ⟨t1, t2⟩ t3 h0 (fun nc ns hc hs => k nc ns (by omega) (by omega)) (pp 2 0).toNat 0 (by omega) _ _ (by omega) (by omega)⟩, fun z => absurd rfl z⟩⟩⟩
theorem y155 {u : Int} {x : Nat} (ha : a ≤ 90000) (hb : b ≤ 6000000) (hx : x ≤ 100)
    (k : ∀ u2 h nc ns, BO h o A pp ss bb tt tp er q dq → PT h u (pp 1 0) 8 (fun i t => s_op pp ss tt i t) (pp 1 0) → PT h u2 (pp 2 0) 4 (fun i t => s_ov pp ss i t) 0 → u + pp 1 0 < u2 → nc ≤ a + (x + 319) → ns ≤ b + 6 * (x + 319) → ∀ {y19 y20 y21 y22 y23 y24 y25 y26 y27 y28 y29 y30 y31 y32 y33 y34 y35 y36 y37 : AV}, WP (d + 10) 179 (507, [(4, 0), y1, (2, o), (2, 0), (0, pp 0 0), (0, pp 1 0), (0, pp 2 0), (0, (tm : Int)), (0, x8), (0, ss 0 0), (0, ss 1 0), (0, ss 2 0), (2, u), (0, s_bc pp ss), (0, s_bo pp ss), (0, 0), (0, 0), (2, u2), (0, 0), y19, y20, y21, y22, y23, y24, y25, y26, y27, y28, y29, y30, y31, y32, y33, y34, y35, y36, y37], [], h, nc, ns) K) :
    ∀ (n p : Nat), (p : Int) + (n : Int) = pp 1 0 → ∀ (h : AH) (nc ns : Nat) (y16 : AV), BO h o A pp ss bb tt tp er q dq → PT h u (pp 1 0) 8 (fun i t => s_op pp ss tt i t) (p : Int) → nc ≤ a + (x + 44 * p) → ns ≤ b + 6 * (x + 44 * p) → ∀ {y17 y18 y19 y20 y21 y22 y23 y24 y25 y26 y27 y28 y29 y30 y31 y32 y33 y34 y35 y36 y37 : AV}, WP (d + 10) 179 (155, [(4, 0), y1, (2, o), (2, 0), (0, pp 0 0), (0, pp 1 0), (0, pp 2 0), (0, (tm : Int)), (0, x8), (0, ss 0 0), (0, ss 1 0), (0, ss 2 0), (2, u), (0, sm (f_bc ss) p), (0, sm (f_bo ss) p), (0, (p : Int)), y16, y17, y18, y19, y20, y21, y22, y23, y24, y25, y26, y27, y28, y29, y30, y31, y32, y33, y34, y35, y36, y37], [], h, nc, ns) K := by
  intro n
  induction n with
  | zero =>
    intro p hp h nc ns y16 B P hc hs y17 y18 y19 y20 y21 y22 y23 y24 y25 y26 y27 y28 y29 y30 y31 y32 y33 y34 y35 y36 y37
    have hN := B.c.p1
    have gn := B.g.n
    have ep : p = (pp 1 0).toNat := by omega
    have e13 : sm (f_bc ss) p = s_bc pp ss := by rw [ep]; rfl
    have e14 : sm (f_bo ss) p = s_bo pp ss := by rw [ep]; rfl
    have ei : (p : Int) = pp 1 0 := by omega
    rw [ei] at P
    have Pb := P.b
    rw [e13, e14]
    refine v179_155 ⟨fun z => absurd z (by omega), fun _ => ⟨⟨⟨by omega, Or.inr (by omega)⟩, by omega, ?_⟩, by omega, ?_⟩⟩
    · show ns + ((pp 2 0).toNat + (pp 2 0).toNat * 4) ≤ _
      omega
    · refine k (am_n h) _ _ _ (B.hi (FX.rf.ko (KpO.mk (by omega)))) (P.fx (R := fun _ => False) (FX.rf.ko (KpO.mk (by omega))) (fun b hb => hb.elim) (by omega)) (PT.mk (by omega) gn) (by omega) (by omega) ?_
      show ns + ((pp 2 0).toNat + (pp 2 0).toNat * 4) ≤ _
      omega
  | succ n ih =>
    intro p hp h nc ns y16 B P hc hs y17 y18 y19 y20 y21 y22 y23 y24 y25 y26 y27 y28 y29 y30 y31 y32 y33 y34 y35 y36 y37
    have hN := B.c.p1
    have hS := B.c.si
    have b1 := sm_bd (f := f_bc ss) (B := 1) (n := p) (fun i hi => by unfold f_bc; split <;> omega)
    have b2 := sm_bd (f := f_bo ss) (B := 1) (n := p) (fun i hi => by
      have := hS.bought (i := (i : Int)) (by omega) (by omega)
      unfold f_bo
      omega)
    refine v179_155 ⟨fun _ => ?_, fun z => absurd (show (p : Int) < pp 1 0 by omega) z⟩
    refine y165 (x := x + 44 * p) ha hb (by omega) p (by omega) ?_ 8 0 rfl h nc ns B P (fun t t0 t1 => absurd t1 (by omega)) (by omega) (by omega)
    intro h2 nc2 ns2 B2 P2 hc2 hs2 y20 y21 y22 y23 y24 y25 y26 y27 y28 y29 y30 y31 y32 y33 y34 y35 y36 y37
    refine y210 (x := x + 44 * p + 8) B2 ha hb (by omega) p (by omega) ?_ (pp 2 0).toNat 0 (by omega) nc2 ns2 (by omega) (by omega)
    intro nc3 ns3 hc3 hs3 y19 y20 y21 y22 y23 y24 y25 y26 y27 y28 y29 y30 y31 y32 y33 y34 y35 y36 y37
    refine y252 B2 p (by omega) P2 (by omega) (by omega) ?_
    intro y19 y20 y21 y22 y23 y24 y25 y26 y27 y28 y29 y30 y31 y32 y33 y34 y35 y36 y37
    refine y340 (x := x + 44 * p + 22) B2 ha hb (by omega) p (by omega) P2 (by omega) (by omega) ?_
    intro nc4 ns4 hc4 hs4 y16 y17 y18 y19 y20 y21 y22 y23 y24 y25 y26 y27 y28 y29 y30 y31 y32 y33 y34 y35 y36 y37
    refine v179_483 ?_
    rw [show w32 ((p : Int) + 1) = ((p + 1 : Nat) : Int) by rw [w32_id (by omega) (by omega)]; omega]
    have ei : (p : Int) + 1 = ((p + 1 : Nat) : Int) := by omega
    rw [ei] at P2
    exact ih (p + 1) (by omega) h2 nc4 ns4 _ B2 P2 (by omega) (by omega)
end
