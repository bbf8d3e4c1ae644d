/-! ===== the law's years: tables, a project's row ===== -/
theorem FX.ko {R : Int → Prop} {h h1 h2 : AH} (x : FX R h h1) (k : KpO (am_n h1) h1 h2) : FX R h h2 := by
  obtain ⟨x1, x2, x3, x4, x5⟩ := x
  have kn := k.n
  exact ⟨by omega, k.sl.trans x2, fun j => (k.sx j).trans (x3 j), fun b hb => ⟨(k.c b (by omega)).1.trans (x4 b hb).1, (k.c b (by omega)).2.1.trans (x4 b hb).2⟩, fun b hb hr i => ((k.c b (by omega)).2.2 i).trans (x5 b hb hr i)⟩
theorem BO.hi {h h2 : AH} {a : Int} {A pp ss : TT} {bb : Int → Int → Int} {tt : Int → List Op} {tp : Int → Int} {er q dq : Int} (B : BO h a A pp ss bb tt tp er q dq) (f : FX (fun b => 53 ≤ b) h h2) : BO h2 a A pp ss bb tt tp er q dq :=
  ⟨B.c.kp B.o f.1 (fun b hb z => ⟨(f.2.2.2.1 b hb).1, (f.2.2.2.1 b hb).2, fun i => f.2.2.2.2 b hb (by omega) i⟩), B.g.fx3 f (fun b z => z), B.o⟩
/-- a table at u: n rows of m, the first k of which are F's -/
def PT (h : AH) (u n m : Int) (F : Int → Int → Int) (k : Int) : Prop := (53 ≤ u ∧ u + n < am_n h ∧ 0 ≤ n) ∧ (am_t h u = 24 ∧ am_l h u = n) ∧ (∀ i, 0 ≤ i → i < n → am_m h u i = u + 1 + i ∧ am_t h (u + 1 + i) = 20 ∧ am_l h (u + 1 + i) = m) ∧ (∀ i j, 0 ≤ i → i < k → 0 ≤ j → j < m → am_m h (u + 1 + i) j = F i j)
theorem PT.b {h : AH} {u n m : Int} {F : Int → Int → Int} {k : Int} (x : PT h u n m F k) : 53 ≤ u ∧ u + n < am_n h ∧ 0 ≤ n := x.1
theorem PT.t {h : AH} {u n m : Int} {F : Int → Int → Int} {k : Int} (x : PT h u n m F k) : am_t h u = 24 ∧ am_l h u = n := x.2.1
theorem PT.r {h : AH} {u n m : Int} {F : Int → Int → Int} {k : Int} (x : PT h u n m F k) : ∀ i, 0 ≤ i → i < n → am_m h u i = u + 1 + i ∧ am_t h (u + 1 + i) = 20 ∧ am_l h (u + 1 + i) = m := x.2.2.1
theorem PT.v {h : AH} {u n m : Int} {F : Int → Int → Int} {k : Int} (x : PT h u n m F k) : ∀ i j, 0 ≤ i → i < k → 0 ≤ j → j < m → am_m h (u + 1 + i) j = F i j := x.2.2.2
section
variable {h h2 : AH} {u n m k : Int} {F : Int → Int → Int} {R : Int → Prop}
theorem PT.fx (x : PT h u n m F k) (f : FX R h h2) (hR : ∀ b, R b → b < u ∨ u + n < b) (hk : k ≤ n) : PT h2 u n m F k := by
  obtain ⟨f1, f2, f3, f4, f5⟩ := f
  obtain ⟨b1, b2, b3⟩ := x.b
  refine ⟨⟨b1, by omega, b3⟩, ⟨(f4 u (by omega)).1.trans x.t.1, (f4 u (by omega)).2.trans x.t.2⟩, fun i i0 i1 => ?_, fun i j i0 i1 j0 j1 => (f5 (u + 1 + i) (by omega) (fun r => by have := hR _ r; omega) j).trans (x.v i j i0 i1 j0 j1)⟩
  obtain ⟨r1, r2, r3⟩ := x.r i i0 i1
  exact ⟨(f5 u (by omega) (fun r => by have := hR _ r; omega) i).trans r1, (f4 _ (by omega)).1.trans r2, (f4 _ (by omega)).2.trans r3⟩
theorem PT.mk (hn : 0 ≤ n) (h0 : 53 ≤ am_n h) : PT (am_mk2 h 24 20 n m) (am_n h) n m F 0 := by
  refine ⟨⟨h0, by show am_n h + n < am_n h + 1 + n; omega, hn⟩, ⟨if_pos rfl, if_pos rfl⟩, fun i i0 i1 => ?_, fun i j i0 i1 => absurd i1 (by omega)⟩
  have e1 : ¬ am_n h + 1 + i = h.2.2.2.1 := by show ¬ am_n h + 1 + i = am_n h; omega
  have e2 : h.2.2.2.1 < am_n h + 1 + i ∧ am_n h + 1 + i ≤ h.2.2.2.1 + n := by show am_n h < _ ∧ _ ≤ am_n h + _; omega
  exact ⟨if_pos rfl, (if_neg e1).trans (if_pos e2), (if_neg e1).trans (if_pos e2)⟩
/-- one more row is done -/
theorem PT.nx {p : Int} (x : PT h u n m F p) (r : ∀ t, 0 ≤ t → t < m → am_m h (u + 1 + p) t = F p t) : PT h u n m F (p + 1) :=
  ⟨x.b, x.t, x.r, fun i j i0 i1 j0 j1 => by
    by_cases e : i = p
    · rw [e]; exact r j j0 j1
    · exact x.v i j i0 (by omega) j0 j1⟩
/-- a cell written in the row that is next -/
theorem PT.wr {p i x : Int} (hp : 0 ≤ p) (y : PT h u n m F p) : PT (am_w h (u + 1 + p) i x) u n m F p := by
  obtain ⟨b1, b2, b3⟩ := y.b
  refine ⟨y.b, y.t, fun j j0 j1 => ?_, fun j l j0 j1 l0 l1 => by rw [am_m_w, if_neg (by omega)]; exact y.v j l j0 j1 l0 l1⟩
  obtain ⟨r1, r2, r3⟩ := y.r j j0 j1
  exact ⟨by rw [am_m_w, if_neg (by omega)]; exact r1, r2, r3⟩
end
section
variable {d : Nat} {o : Int} {A pp ss : TT} {bb : Int → Int → Int} {tt : Int → List Op} {tp : Int → Int} {er q dq x8 : Int} {tm : Nat} {K : AK} {a b : Nat}
variable {y1 y9 y10 y11 y12 y13 y14 y15 y16 y17 y18 y19 y20 y21 y22 y23 y24 y25 y26 y27 y28 y29 y30 y31 y32 y33 y34 y35 y36 y37 : AV}
theorem y114 {h : AH} {x nc ns : Nat} (B : BO h o A pp ss bb tt tp er q dq) (ha : a ≤ 90000) (hb : b ≤ 6000000) (hx : x ≤ 100) (hc : nc ≤ a + x) (hs : ns ≤ b + 6 * x)
    (k : ∀ u h nc ns, BO h o A pp ss bb tt tp er q dq → PT h u (pp 1 0) 8 (fun i t => s_op pp ss tt i t) 0 → nc ≤ a + (x + 14) → ns ≤ b + 6 * (x + 14) → ∀ {y16 y17 y18 y19 y20 y21 y22 y23 y24 y25 y26 y27 y28 y29 y30 y31 y32 y33 y34 y35 y36 y37 : AV}, WP (d + 10) 179 (155, [(4, 0), y1, (2, o), (2, 0), (0, pp 0 0), (0, pp 1 0), (0, pp 2 0), (0, (tm : Int)), (0, x8), (0, ss 0 0), (0, ss 1 0), (0, ss 2 0), (2, u), (0, 0), (0, 0), (0, 0), y16, y17, y18, y19, y20, y21, y22, y23, y24, y25, y26, y27, y28, y29, y30, y31, y32, y33, y34, y35, y36, y37], [], h, nc, ns) K) :
    WP (d + 10) 179 (114, [(4, 0), y1, (2, o), (2, 0), (0, pp 0 0), (0, pp 1 0), (0, pp 2 0), (0, (tm : Int)), (0, x8), y9, y10, y11, y12, y13, y14, y15, y16, y17, y18, y19, y20, y21, y22, y23, y24, y25, y26, y27, y28, y29, y30, y31, y32, y33, y34, y35, y36, y37], [], h, nc, ns) K := by
  have hN := B.c.p1
  have gn := B.g.n
  refine v179_114 ⟨⟨B.g.t0, by omega, by omega⟩, c107 (d := d + 5) B.g (fun _ => okx ⟨⟨B.g.t0, by omega, by omega⟩, c107 (d := d + 5) B.g (fun _ => okx ⟨⟨B.g.t0, by omega, by omega⟩, c107 (d := d + 5) B.g (fun _ => okx ⟨⟨⟨by omega, Or.inr (by omega)⟩, by omega, ?_⟩, by omega, ?_⟩) (fun z => absurd (by decide) z)⟩) (fun z => absurd (by decide) z)⟩) (fun z => absurd (by decide) z)⟩
  · show ns + 6 + 6 + 6 + ((pp 1 0).toNat + (pp 1 0).toNat * 8) ≤ _
    omega
  · exact k (am_n h) _ _ _ (B.hi (FX.rf.ko (KpO.mk (by omega)))) (PT.mk (by omega) gn) (by omega) (by show ns + 6 + 6 + 6 + ((pp 1 0).toNat + (pp 1 0).toNat * 8) ≤ _; omega)
theorem y165 {u l13 l14 : Int} {x : Nat} (ha : a ≤ 90000) (hb : b ≤ 6000000) (hx : x ≤ 1000) (p : Nat) (hp : (p : Int) < pp 1 0)
    (k : ∀ h nc ns, BO h o A pp ss bb tt tp er q dq → PT h u (pp 1 0) 8 (fun i t => s_op pp ss tt i t) ((p : Int) + 1) → nc ≤ a + (x + 8) → ns ≤ b + 6 * (x + 8) → ∀ {y20 y21 y22 y23 y24 y25 y26 y27 y28 y29 y30 y31 y32 y33 y34 y35 y36 y37 : AV}, WP (d + 10) 179 (210, [(4, 0), y1, (2, o), (2, 0), (0, pp 0 0), (0, pp 1 0), (0, pp 2 0), (0, (tm : Int)), (0, x8), (0, ss 0 0), (0, ss 1 0), (0, ss 2 0), (2, u), (0, l13), (0, l14), (0, (p : Int)), (2, u + 1 + (p : Int)), (0, 0), (0, 0), (0, 0), y20, y21, y22, y23, y24, y25, y26, y27, y28, y29, y30, y31, y32, y33, y34, y35, y36, y37], [], h, nc, ns) K) :
    ∀ (n j : Nat), j + n = 8 → ∀ (h : AH) (nc ns : Nat), BO h o A pp ss bb tt tp er q dq → PT h u (pp 1 0) 8 (fun i t => s_op pp ss tt i t) (p : Int) → (∀ t, 0 ≤ t → t < (j : Int) → am_m h (u + 1 + (p : Int)) t = s_op pp ss tt (p : Int) t) → nc ≤ a + (x + j) → ns ≤ b + 6 * (x + j) → WP (d + 10) 179 (165, [(4, 0), y1, (2, o), (2, 0), (0, pp 0 0), (0, pp 1 0), (0, pp 2 0), (0, (tm : Int)), (0, x8), (0, ss 0 0), (0, ss 1 0), (0, ss 2 0), (2, u), (0, l13), (0, l14), (0, (p : Int)), (0, (j : Int)), y17, y18, y19, y20, y21, y22, y23, y24, y25, y26, y27, y28, y29, y30, y31, y32, y33, y34, y35, y36, y37], [], h, nc, ns) K := by
  intro n
  induction n with
  | zero =>
    intro j hj h nc ns B P r hc hs
    obtain ⟨r1, r2, r3⟩ := P.r (p : Int) (by omega) hp
    have Pb := P.b
    refine v179_165 ⟨fun z => absurd z (by omega), fun _ => ?_⟩
    rw [P.t.1, P.t.2, r1]
    refine ⟨⟨Or.inl rfl, by omega, hp⟩, by omega, k h nc ns B (P.nx (fun t t0 t1 => r t t0 (by omega))) (by omega) (by omega)⟩
  | succ n ih =>
    intro j hj h nc ns B P r hc hs
    obtain ⟨r1, r2, r3⟩ := P.r (p : Int) (by omega) hp
    have Pb := P.b
    refine v179_165 ⟨fun _ => ?_, fun z => absurd (show (j : Int) < 8 by omega) z⟩
    rw [P.t.1, P.t.2, r1]
    refine ⟨⟨Or.inl rfl, by omega, hp⟩, ⟨B.g.t0, by omega, by omega⟩, c110 (d := d + 3) B.g (fun _ h3 f3 g3 => okx ?_) (fun z => absurd (show _ ∧ _ from ⟨⟨by omega, hp⟩, by omega, by omega⟩) z)⟩
    have B3 := B.cl f3 (by decide) (by decide) g3
    have P3 := P.fx (FX.fr f3) (fun b hb => by omega) (by omega)
    obtain ⟨q1, q2, q3⟩ := P3.r (p : Int) (by omega) hp
    rw [q2, q3, show w32 ((j : Int) + 1) = ((j + 1 : Nat) : Int) by rw [w32_id (by omega) (by omega)]; omega]
    refine ⟨⟨rfl, by omega, by omega⟩, ih (j + 1) (by omega) _ _ _ (B3.hi (FX.rf.w (by omega))) (P3.wr (by omega)) (fun t t0 t1 => ?_) (by omega) (by omega)⟩
    rw [am_m_w]
    by_cases e : t = (j : Int)
    · rw [if_pos ⟨rfl, e⟩, e]
    · rw [if_neg (fun z => e z.2)]
      exact (f3.2.2.2.2 _ (by omega) (by omega) t).trans (r t t0 (by omega))
theorem y210 {u l13 l14 : Int} {x : Nat} {h : AH} (B : BO h o A pp ss bb tt tp er q dq) (ha : a ≤ 90000) (hb : b ≤ 6000000) (hx : x ≤ 1000) (p : Nat) (hp : (p : Int) < pp 1 0)
    (k : ∀ nc ns, nc ≤ a + (x + 14) → ns ≤ b + 6 * (x + 14) → ∀ {y19 y20 y21 y22 y23 y24 y25 y26 y27 y28 y29 y30 y31 y32 y33 y34 y35 y36 y37 : AV}, WP (d + 10) 179 (252, [(4, 0), y1, (2, o), (2, 0), (0, pp 0 0), (0, pp 1 0), (0, pp 2 0), (0, (tm : Int)), (0, x8), (0, ss 0 0), (0, ss 1 0), (0, ss 2 0), (2, u), (0, l13), (0, l14), (0, (p : Int)), (2, u + 1 + (p : Int)), (0, s_nf pp ss (p : Int)), (0, s_cf pp ss (p : Int)), y19, y20, y21, y22, y23, y24, y25, y26, y27, y28, y29, y30, y31, y32, y33, y34, y35, y36, y37], [], h, nc, ns) K) :
    ∀ (n v : Nat), v + n = (pp 2 0).toNat → ∀ (nc ns : Nat), nc ≤ a + (x + 2 * v) → ns ≤ b + 6 * (x + 2 * v) → WP (d + 10) 179 (210, [(4, 0), y1, (2, o), (2, 0), (0, pp 0 0), (0, pp 1 0), (0, pp 2 0), (0, (tm : Int)), (0, x8), (0, ss 0 0), (0, ss 1 0), (0, ss 2 0), (2, u), (0, l13), (0, l14), (0, (p : Int)), (2, u + 1 + (p : Int)), (0, sm (f_nf ss (p : Int)) v), (0, sm (f_cf ss (p : Int)) v), (0, (v : Int)), y20, y21, y22, y23, y24, y25, y26, y27, y28, y29, y30, y31, y32, y33, y34, y35, y36, y37], [], h, nc, ns) K := by
  intro n
  have hN := B.c.p1
  have hS := B.c.si
  induction n with
  | zero =>
    intro v hv nc ns hc hs
    have e : v = (pp 2 0).toNat := by omega
    subst e
    exact v179_210 ⟨fun z => absurd z (by omega), fun _ => k nc ns (by omega) (by omega)⟩
  | succ n ih =>
    intro v hv nc ns hc hs
    have f9 := hS.fan (12 * (v : Int) + (p : Int))
    have s4 := hS.purse (i := (v : Int)) (by omega) (by omega)
    have b1 := sm_bd (f := f_nf ss (p : Int)) (B := 1) (n := v) (fun i hi => by
      have := hS.fan (12 * (i : Int) + (p : Int))
      unfold f_nf
      omega)
    have b2 := sm_bd (f := f_cf ss (p : Int)) (B := 9999) (n := v) (fun i hi => by
      have := hS.purse (i := (i : Int)) (by omega) (by omega)
      unfold f_cf
      split <;> omega)
    have go : ∀ c e : Int, c = f_nf ss (p : Int) (v : Int) → e = f_cf ss (p : Int) (v : Int) → ∀ nc2 ns2, nc2 ≤ nc + 2 → ns2 ≤ ns + 12 → WP (d + 10) 179 (210, [(4, 0), y1, (2, o), (2, 0), (0, pp 0 0), (0, pp 1 0), (0, pp 2 0), (0, (tm : Int)), (0, x8), (0, ss 0 0), (0, ss 1 0), (0, ss 2 0), (2, u), (0, l13), (0, l14), (0, (p : Int)), (2, u + 1 + (p : Int)), (0, sm (f_nf ss (p : Int)) v + c), (0, sm (f_cf ss (p : Int)) v + e), (0, w32 ((v : Int) + 1)), y20, y21, y22, y23, y24, y25, y26, y27, y28, y29, y30, y31, y32, y33, y34, y35, y36, y37], [], h, nc2, ns2) K := by
      intro c e ec ee nc2 ns2 h1 h2
      rw [ec, ee, show w32 ((v : Int) + 1) = ((v + 1 : Nat) : Int) by rw [w32_id (by omega) (by omega)]; omega]
      exact ih (v + 1) (by omega) nc2 ns2 (by omega) (by omega)
    refine v179_210 ⟨fun _ => ⟨⟨B.g.t0, by omega, by omega⟩, c113 (d := d + 8) B.g (fun _ => okx ⟨fun z => ?_, fun z => ⟨⟨B.g.t0, by omega, by omega⟩, c112 (d := d + 6) B.g (fun _ => okx ?_) (fun z => absurd (show _ ∧ _ from ⟨⟨by omega, by omega⟩, by decide⟩) z)⟩⟩) (fun z => absurd (show _ ∧ _ from ⟨⟨by omega, by omega⟩, by omega, hp⟩) z)⟩, fun z => absurd (show (v : Int) < pp 2 0 by omega) z⟩
    · have := go 0 0 (by unfold f_nf; omega) (by unfold f_cf; rw [if_pos z]) (nc + 1) (ns + 6) (by omega) (by omega)
      rw [Int.add_zero, Int.add_zero] at this
      exact this
    · have e4 : s_ov pp ss (v : Int) 0 = ss 4 (v : Int) := rfl
      have := go 1 (ss 4 (v : Int)) (by unfold f_nf; omega) (by unfold f_cf; rw [if_neg z]) (nc + 1 + 1) (ns + 6 + 6) (by omega) (by omega)
      rw [e4, w32_id (x := sm (f_nf ss (p : Int)) v + 1) (by omega) (by omega), w32_id (x := sm (f_cf ss (p : Int)) v + ss 4 (v : Int)) (by omega) (by omega)]
      exact this
end
