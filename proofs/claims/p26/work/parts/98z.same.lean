/-! ===== the law's own jury: counts, and whether it is the class's ===== -/
theorem cnt9 {pp ss : TT} (sb : SB pp ss) (n : Nat) (hn : (n : Int) ≤ pp 1 0) (hS : SI pp ss) : sm (fun i => if ss 7 i < 0 then 0 else if ss 8 i = 1 then 1 else 0) n = sm (f_bo ss) n := by
  refine sm_congr (fun i hi => ?_)
  have b := sb (i : Int) (by omega) (by omega)
  have c := hS.bought (i := (i : Int)) (by omega) (by omega)
  have e := hS.built (i := (i : Int)) (by omega) (by omega)
  show (if ss 7 (i : Int) < 0 then 0 else if ss 8 (i : Int) = 1 then 1 else 0) = ss 8 (i : Int)
  by_cases z : ss 7 (i : Int) < 0
  · rw [if_pos z]
    have : ¬ ss 8 (i : Int) = 1 := fun y => b y (by omega)
    omega
  · rw [if_neg z]
    split <;> omega
/-- an array at u that is being filled in behind h -/
def OA (h g : AH) (u n : Int) (G : Int → Int) : Prop := (FP u u h g) ∧ (am_t g u = 20) ∧ (am_l g u = n) ∧ (∀ j, am_m g u j = G j) ∧ (am_n g = u + 1)
theorem OA.f {h g : AH} {u n : Int} {G : Int → Int} (x : OA h g u n G) : FP u u h g := x.1
theorem OA.t {h g : AH} {u n : Int} {G : Int → Int} (x : OA h g u n G) : am_t g u = 20 := x.2.1
theorem OA.l {h g : AH} {u n : Int} {G : Int → Int} (x : OA h g u n G) : am_l g u = n := x.2.2.1
theorem OA.m {h g : AH} {u n : Int} {G : Int → Int} (x : OA h g u n G) : ∀ j, am_m g u j = G j := x.2.2.2.1
theorem OA.e {h g : AH} {u n : Int} {G : Int → Int} (x : OA h g u n G) : am_n g = u + 1 := x.2.2.2.2
theorem OA.w {h g : AH} {u n i x : Int} {G : Int → Int} (o : OA h g u n G) : OA h (am_w g u i x) u n (vt9 G i x) :=
  ⟨o.f.w, o.t, o.l, fun j => by
    rw [am_m_w]
    unfold vt9
    by_cases e : j = i
    · rw [if_pos ⟨rfl, e⟩, if_pos e]
    · rw [if_neg (fun z => e z.2), if_neg e]; exact o.m j, o.e⟩
theorem OA.cg {h g : AH} {u n : Int} {G G2 : Int → Int} (o : OA h g u n G) (e : ∀ j, G j = G2 j) : OA h g u n G2 := ⟨o.f, o.t, o.l, fun j => (o.m j).trans (e j), o.e⟩
theorem OA.ix {h g : AH} {u n i : Int} {G : Int → Int} (o : OA h g u n G) (h0 : 0 ≤ i) (h1 : i < n) : am_t g u = 20 ∧ 0 ≤ i ∧ i < am_l g u := ⟨o.t, h0, by rw [o.l]; exact h1⟩
theorem OA.mk0 {h : AH} {n : Int} : OA h (am_a h 20 n (fun _ => 0)) (am_n h) n (fun _ => 0) := ⟨FP.rf.al, if_pos rfl, if_pos rfl, fun _ => if_pos rfl, rfl⟩
theorem s171 {d : Nat} {h : AH} {a : Int} {A pp ss : TT} {bb : Int → Int → Int} {K : AK} (c : SM h a A pp ss bb) (sb : SB pp ss) (n0 : 53 ≤ am_n h) (k : ∀ h2, FP (am_n h) (am_n h) h h2 → RO h2 (am_n h) 12 (fun i => s_ct pp ss 0 i) → K 0 (am_n h) h2) : am_call (d + 1) 171 [(2, a)] h K := by
  have hN := c.p1
  have ba := c.bd.1.1
  have ne : ¬ a = am_n h := by omega
  have O0 := OA.mk0 (h := h) (n := 12)
  refine v171 ⟨⟨⟨by decide, Or.inr (by omega)⟩, by decide, by decide⟩, (if_neg ne).trans c.t, O0.ix (by decide) (by decide), ?_⟩
  rw [show am_m (am_a h 20 12 (fun _ => 0)) a 0 = ss 0 0 from (if_neg ne).trans c.m0]
  have O1 := O0.w (i := 0) (x := ss 0 0)
  generalize am_w (am_a h 20 12 (fun _ => 0)) (am_n h) 0 (ss 0 0) = g1 at O1 ⊢
  clear O0
  have C1 := c.fp O1.f (Int.le_refl _) (Int.le_refl _)
  refine v171_11 ⟨C1.t, by rw [C1.m4, C1.caps.1]; decide, O1.ix (by decide) (by decide), ?_⟩
  rw [C1.m4, C1.caps.2.1]
  have O2 := O1.w (i := 1) (x := pp 0 0)
  generalize am_w g1 (am_n h) 1 (pp 0 0) = g2 at O2 ⊢
  clear C1 O1
  have C2 := c.fp O2.f (Int.le_refl _) (Int.le_refl _)
  refine v171_19 ⟨C2.t, by rw [C2.m5, C2.pt]; decide, O2.ix (by decide) (by decide), ?_⟩
  rw [C2.m5, C2.pl]
  have O3 := O2.w (i := 2) (x := pp 1 0)
  generalize am_w g2 (am_n h) 2 (pp 1 0) = g3 at O3 ⊢
  clear C2 O2
  have C3 := c.fp O3.f (Int.le_refl _) (Int.le_refl _)
  refine v171_27 ⟨C3.t, by rw [C3.m6, C3.vt]; decide, O3.ix (by decide) (by decide), ?_⟩
  rw [C3.m6, C3.vl]
  have O4 := O3.w (i := 3) (x := pp 2 0)
  generalize am_w g3 (am_n h) 3 (pp 2 0) = g4 at O4 ⊢
  clear C3 O3
  have C4 := c.fp O4.f (Int.le_refl _) (Int.le_refl _)
  refine v171_35 ⟨C4.t, by rw [C4.m8, C4.bt]; decide, O4.ix (by decide) (by decide), ?_⟩
  rw [C4.m8, C4.bl]
  have O5 := O4.w (i := 4) (x := pp 3 0)
  generalize am_w g4 (am_n h) 4 (pp 3 0) = g5 at O5 ⊢
  clear C4 O4
  have C5 := c.fp O5.f (Int.le_refl _) (Int.le_refl _)
  refine v171_43 ⟨C5.t, O5.ix (by decide) (by decide), ?_⟩
  rw [C5.m3]
  have O6 := O5.w (i := 5) (x := ss 1 0)
  generalize am_w g5 (am_n h) 5 (ss 1 0) = g6 at O6 ⊢
  clear C5 O5
  have C6 := c.fp O6.f (Int.le_refl _) (Int.le_refl _)
  refine v171_50 ⟨C6.t, O6.ix (by decide) (by decide), ?_⟩
  rw [C6.m1]
  have O7 := O6.w (i := 6) (x := ss 2 0)
  generalize am_w g6 (am_n h) 6 (ss 2 0) = g7 at O7 ⊢
  clear C6 O6
  refine v171_58 ⟨O7.ix (by decide) (by decide), ?_⟩
  have O8 := O7.w (i := 7) (x := 0)
  generalize am_w g7 (am_n h) 7 (0) = g8 at O8 ⊢
  clear O7
  have C8 := c.fp O8.f (Int.le_refl _) (Int.le_refl _)
  refine v171_63 ⟨C8.t, s170 C8 (okx (v171_70 ⟨O8.ix (by decide) (by decide), ?_⟩))⟩
  have O9 := O8.w (i := 8) (x := s_bc pp ss)
  generalize am_w g8 (am_n h) 8 (s_bc pp ss) = g9 at O9 ⊢
  clear C8 O8
  refine v171_71 ⟨O9.ix (by decide) (by decide), ?_⟩
  have O10 := O9.w (i := 9) (x := 0)
  generalize am_w g9 (am_n h) 9 (0) = g10 at O10 ⊢
  clear O9
  have C10 := c.fp O10.f (Int.le_refl _) (Int.le_refl _)
  refine v171_76 ⟨C10.t, O10.ix (by decide) (by decide), ?_⟩
  rw [C10.m2]
  have O11 := O10.w (i := 10) (x := ss 3 0)
  generalize am_w g10 (am_n h) 10 (ss 3 0) = g11 at O11 ⊢
  clear C10 O10
  refine v171_84 ⟨O11.ix (by decide) (by decide), ?_⟩
  have O12 := O11.w (i := 11) (x := 0)
  generalize am_w g11 (am_n h) 11 (0) = g12 at O12 ⊢
  clear O11
  have C12 := c.fp O12.f (Int.le_refl _) (Int.le_refl _)
  refine v171_89 ⟨by omega, C12.t, by rw [C12.m6]; exact C12.nr.2.1, by rw [C12.m6, C12.vt]; decide, ?_⟩
  rw [C12.m6, C12.vl]
  clear C12
  have OV : ∃ G, OA h g12 (am_n h) 12 G ∧ G 0 = ss 0 0 ∧ G 1 = pp 0 0 ∧ G 2 = pp 1 0 ∧ G 3 = pp 2 0 ∧ G 4 = pp 3 0 ∧ G 5 = ss 1 0 ∧ G 6 = ss 2 0 ∧ G 7 = 0 ∧ G 8 = s_bc pp ss ∧ G 9 = 0 ∧ G 10 = ss 3 0 ∧ G 11 = 0 := ⟨_, O12, rfl, rfl, rfl, rfl, rfl, rfl, rfl, rfl, rfl, rfl, rfl, rfl⟩
  clear O12
  obtain ⟨G, O, G0, G1, G2, G3, G4, G5, G6, G7, G8, G9, G10, G11⟩ := OV
  refine lp_in (S := AH × AV) (fun n s => (101, [(2, a), (2, am_n h), (2, A 2 0), (0, pp 2 0), (0, (n : Int)), s.2], [], s.1, 1, 12)) (fun n s => OA h s.1 (am_n h) 12 (vt9 G 7 (sm (f_pu ss) n))) (pp 2 0).toNat (fun n s hn I nx => ?_) (fun s I => ?_) (g12, _) (O.cg (fun j => by
    unfold vt9
    by_cases e : j = 7
    · rw [if_pos e, e, G7]; rfl
    · rw [if_neg e]))
  · obtain ⟨g, y⟩ := s
    dsimp only at I ⊢
    have C := c.fp I.f (Int.le_refl _) (Int.le_refl _)
    obtain ⟨e1, e2, e3, e4, -⟩ := C.v (n : Int) (by omega) (by omega)
    have b := c.si.purse (i := (n : Int)) (by omega) (by omega)
    have sb := sm_bd (f := f_pu ss) (B := 9999) (n := n) (fun j hj => c.si.purse (i := (j : Int)) (by omega) (by omega))
    have q7 : am_m g (am_n h) 7 = sm (f_pu ss) n := (I.m 7).trans rfl
    refine v171_101 ?_
    rw [C.vt, C.vl, e1, e2, e3, e4, q7, show w32 (sm (f_pu ss) n + ss 4 (n : Int)) = sm (f_pu ss) (n + 1) from w32_id (by omega) (by omega)]
    refine ⟨fun _ => ⟨⟨Or.inl rfl, by omega, by omega⟩, (C.nn.2.2.1 _ (by omega) (by omega)).2, I.ix (by decide) (by decide), ⟨rfl, by decide, by decide⟩, I.ix (by decide) (by decide), v171_124 ?_⟩, fun z => absurd (show (n : Int) < pp 2 0 by omega) z⟩
    rw [show w32 ((n : Int) + 1) = ((n + 1 : Nat) : Int) by rw [w32_id (by omega) (by omega)]; omega]
    refine nx (am_w g (am_n h) 7 (sm (f_pu ss) (n + 1)), _) (I.w.cg (fun j => ?_))
    unfold vt9
    by_cases e : j = 7
    · rw [if_pos e, if_pos e]
    · rw [if_neg e, if_neg e, if_neg e]
  · obtain ⟨g, y⟩ := s
    dsimp only at I ⊢
    have C := c.fp I.f (Int.le_refl _) (Int.le_refl _)
    refine v171_101 ⟨fun z => absurd z (by omega), fun _ => ⟨C.t, by rw [C.m5]; exact C.nr.1, by rw [C.m5, C.pt]; decide, ?_⟩⟩
    rw [C.m5, C.pl]
    clear C O
    refine lp_in (S := AH × AV) (fun n s => (141, [(2, a), (2, am_n h), (2, A 1 0), (0, pp 1 0), (0, (n : Int)), s.2], [], s.1, 1, 12)) (fun n s => OA h s.1 (am_n h) 12 (vt9 (vt9 G 7 (s_pu pp ss)) 9 (sm (fun i => if ss 7 i < 0 then 0 else if ss 8 i = 1 then 1 else 0) n))) (pp 1 0).toNat (fun n s hn J nx => ?_) (fun s J => ?_) (g, _) (I.cg (fun j => by
      show vt9 G 7 (s_pu pp ss) j = _
      unfold vt9
      by_cases e : j = 9
      · rw [if_pos e, e, if_neg (by decide), G9]; rfl
      · rw [if_neg e]))
    · obtain ⟨g2, y2⟩ := s
      dsimp only at J ⊢
      have C := c.fp J.f (Int.le_refl _) (Int.le_refl _)
      obtain ⟨e1, e2, e3, e4, e5, e6, e7, e8⟩ := C.p (n : Int) (by omega) (by omega)
      have sb := sm_bd (f := fun i => if ss 7 i < 0 then 0 else if ss 8 i = 1 then 1 else 0) (B := 1) (n := n) (fun j hj => by
        split
        · omega
        · split <;> omega)
      have q9 : am_m g2 (am_n h) 9 = sm (fun i => if ss 7 i < 0 then 0 else if ss 8 i = 1 then 1 else 0) n := (J.m 9).trans rfl
      have st : sm (fun i => if ss 7 i < 0 then 0 else if ss 8 i = 1 then 1 else 0) (n + 1) = sm (fun i => if ss 7 i < 0 then 0 else if ss 8 i = 1 then 1 else 0) n + (if ss 7 (n : Int) < 0 then 0 else if ss 8 (n : Int) = 1 then 1 else 0) := rfl
      have fin : ∀ x, x = sm (fun i => if ss 7 i < 0 then 0 else if ss 8 i = 1 then 1 else 0) (n + 1) → WP (d + 1) 171 (180, [(2, a), (2, am_n h), (2, A 1 0), (0, pp 1 0), (0, (n : Int)), (2, A 5 (n : Int))], [], am_w g2 (am_n h) 9 x, 1, 12) K := fun x hx => by
        refine v171_180 ?_
        rw [show w32 ((n : Int) + 1) = ((n + 1 : Nat) : Int) by rw [w32_id (by omega) (by omega)]; omega, hx]
        refine nx (_, _) (J.w.cg (fun j => ?_))
        unfold vt9
        by_cases e : j = 9
        · rw [if_pos e, if_pos e]
        · rw [if_neg e, if_neg e, if_neg e]
      generalize sm (fun i => if ss 7 i < 0 then 0 else if ss 8 i = 1 then 1 else 0) (n + 1) = S2 at st fin
      generalize sm (fun i => if ss 7 i < 0 then 0 else if ss 8 i = 1 then 1 else 0) n = S1 at st sb q9
      refine v171_141 ?_
      rw [C.pt, C.pl, e1, e2, e3, e7, e8, q9]
      refine ⟨fun _ => ⟨⟨Or.inl rfl, by omega, by omega⟩, C.nn.2.2.2.1 _ (by omega) (by omega), J.ix (by decide) (by decide), ⟨rfl, by decide, by decide⟩, fun z => ⟨J.ix (by decide) (by decide), fin _ ?_⟩, fun z => ⟨⟨rfl, by decide, by decide⟩, fun y => ⟨J.ix (by decide) (by decide), fin _ ?_⟩, fun y => ⟨J.ix (by decide) (by decide), fin _ ?_⟩⟩⟩, fun z => absurd (show (n : Int) < pp 1 0 by omega) z⟩
      · rw [if_pos z] at st
        rw [w32_id (by omega) (by omega)]; omega
      · rw [if_neg z, if_pos y] at st
        rw [w32_id (by omega) (by omega)]; omega
      · rw [if_neg z, if_neg y] at st
        rw [w32_id (by omega) (by omega)]; omega
    · obtain ⟨g2, y2⟩ := s
      dsimp only at J ⊢
      refine v171_141 ⟨fun z => absurd z (by omega), fun _ => k g2 J.f ⟨⟨n0, by rw [J.e]; omega⟩, J.t, J.l, fun t t0 t1 => (J.m t).trans ?_⟩⟩
      have e9 : sm (fun i => if ss 7 i < 0 then 0 else if ss 8 i = 1 then 1 else 0) (pp 1 0).toNat = s_bo pp ss := cnt9 sb _ (by omega) c.si
      rw [e9]
      clear J I
      have hc : t = 0 ∨ t = 1 ∨ t = 2 ∨ t = 3 ∨ t = 4 ∨ t = 5 ∨ t = 6 ∨ t = 7 ∨ t = 8 ∨ t = 9 ∨ t = 10 ∨ t = 11 := by omega
      rcases hc with e | e | e | e | e | e | e | e | e | e | e | e <;> subst e
      · exact G0
      · exact G1
      · exact G2
      · exact G3
      · exact G4
      · exact G5
      · exact G6
      · rfl
      · exact G8
      · rfl
      · exact G10
      · exact G11
theorem dcl_ok : ∀ n : Nat, n < 145 → ∀ m : Nat, m < 13 → m ≠ 0 → am_dcl ((am_dd (am_i2d (n : Int)) (am_i2d (m : Int))).toNat : Int) ((am_dd (am_i2d (n : Int)) (am_i2d (m : Int))).toNat : Int) = 0 := by
  decide +kernel
section
variable {d : Nat} {h : AH} {a : Int} {A pp ss : TT} {bb : Int → Int → Int} {tt : Int → List Op} {tp : Int → Int} {er q dq : Int} {K : AK}
theorem s172_290 {p u : Int} {nc ns : Nat} {y2 y4 y7 y8 y9 y10 : AV} (B : BO h a A pp ss bb tt tp er q dq) (p0 : 0 ≤ p) (p1 : p < pp 1 0) (r : RO h u 8 (fun t => s_op pp ss tt p t)) (hnc : nc + 10 ≤ 600) (hns : ns + 118 ≤ 20000)
    (k : ∀ h2 y5 y6 nc2 ns2, BO h2 a A pp ss bb tt tp er q dq → nc2 ≤ nc + 10 → ns2 ≤ ns + 118 → WP (d + 8) 172 (195, [(2, a), (2, 0), y2, (0, p + 1), y4, y5, y6, y7, y8, y9, y10], [], h2, nc2, ns2) K) :
    WP (d + 8) 172 (290, [(2, a), (2, 0), y2, (0, p), y4, (2, u), (0, 0), y7, y8, y9, y10], [], h, nc, ns) K := by
  have hN := B.c.p1
  refine lp_in (S := AH × Nat × Nat) (fun n s => (290, [(2, a), (2, 0), y2, (0, p), y4, (2, u), (0, (n : Int)), y7, y8, y9, y10], [], s.1, s.2.1, s.2.2)) (fun n s => BO s.1 a A pp ss bb tt tp er q dq ∧ RO s.1 u 8 (fun t => s_op pp ss tt p t) ∧ s.2.1 ≤ nc + n ∧ s.2.2 ≤ ns + 6 * n) 8 (fun n s hn I nx => ?_) (fun s I => ?_) (h, nc, ns) ⟨B, r, Nat.le_refl _, by show ns ≤ ns + 6 * 0; omega⟩
  · obtain ⟨g, c1, c2⟩ := s
    obtain ⟨B1, r1, b1, b2⟩ := I
    dsimp only at B1 r1 b1 b2 ⊢
    refine v172_290 ⟨fun _ => ⟨⟨B1.g.t0, by omega, by omega⟩, c110 B1.g (fun z g2 f2 G2 => okx ?_) (fun z => absurd ⟨⟨p0, p1⟩, by omega, by omega⟩ z)⟩, fun z => absurd (show (n : Int) < 8 by omega) z⟩
    have r2 := r1.fr f2 (by decide)
    have m2 := r2.m (n : Int) (by omega) (by omega)
    rw [r2.t, r2.l, m2, show w32 ((n : Int) + 1) = ((n + 1 : Nat) : Int) by rw [w32_id (by omega) (by omega)]; omega]
    exact ⟨⟨rfl, by omega, by omega⟩, fun _ => nx (g2, _, _) ⟨B1.cl f2 (by decide) (by decide) G2, r2, by show c1 + 1 ≤ _; omega, by show c2 + 6 ≤ _; omega⟩, fun z => absurd rfl z⟩
  · obtain ⟨g, c1, c2⟩ := s
    obtain ⟨B1, r1, b1, b2⟩ := I
    dsimp only at B1 r1 b1 b2 ⊢
    have gn := B1.g.n
    refine v172_290 ⟨fun z => absurd z (by decide), fun _ => ⟨⟨B1.g.t0, by omega, by omega⟩, c111 B1.g (fun z => okx ⟨⟨B1.c.t, by omega, by omega⟩, s162 B1.c p0 p1 (by omega) (fun g2 f2 n2 => okx ?_)⟩) (fun z => absurd ⟨p0, p1⟩ z)⟩⟩
    rw [w32_id (x := p + 1) (by omega) (by omega)]
    exact ⟨fun _ => k g2 _ _ _ _ (B1.fp f2 (Int.le_refl _) (Int.le_refl _)) (by omega) (by omega), fun z => absurd rfl z⟩
theorem s172_195 {p : Int} {nc ns : Nat} {y2 y4 y5 y6 y7 y8 y9 y10 : AV} (B : BO h a A pp ss bb tt tp er q dq) (hq : HQ pp bb tt) (p0 : 0 ≤ p) (p1 : p < pp 1 0) (hnc : nc + 11 ≤ 600) (hns : ns + 126 ≤ 20000)
    (k : ∀ h2 y4 y5 y6 nc2 ns2, BO h2 a A pp ss bb tt tp er q dq → nc2 ≤ nc + 11 → ns2 ≤ ns + 126 → WP (d + 8) 172 (195, [(2, a), (2, 0), y2, (0, p + 1), y4, y5, y6, y7, y8, y9, y10], [], h2, nc2, ns2) K) :
    WP (d + 8) 172 (195, [(2, a), (2, 0), y2, (0, p), y4, y5, y6, y7, y8, y9, y10], [], h, nc, ns) K := by
  have hN := B.c.p1
  have gn := B.g.n
  have c := B.c
  obtain ⟨e1, e2, e3, e4, e5, e6, e7, e8⟩ := c.p p p0 p1
  have bq := c.bd.2.1 p p0 p1
  have ne : ¬ A 5 p = am_n h := by omega
  have ba := c.bd.1.1
  have nea : ¬ a = am_n h := by omega
  have O0 := OA.mk0 (h := h) (n := 8)
  have X : ∀ {g : AH} {G : Int → Int}, OA h g (am_n h) 8 G → ∀ j, am_m g (A 5 p) j = am_m h (A 5 p) j := fun o j => o.f.2.2.2.2 _ bq ne ne j
  have T : ∀ {g : AH} {G : Int → Int}, OA h g (am_n h) 8 G → am_t g (A 5 p) = 20 := fun o => (o.f.2.2.2.1 _ bq).1.trans e2
  have L : ∀ {g : AH} {G : Int → Int}, OA h g (am_n h) 8 G → am_l g (A 5 p) = 5 := fun o => (o.f.2.2.2.1 _ bq).2.trans e3
  have IX : ∀ {g : AH} {G : Int → Int} {i : Int}, OA h g (am_n h) 8 G → 0 ≤ i → i < 5 → am_t g (A 5 p) = 20 ∧ 0 ≤ i ∧ i < am_l g (A 5 p) := fun o i0 i1 => ⟨T o, i0, by rw [L o]; exact i1⟩
  refine v172_195 ?_
  rw [c.t, c.m5, c.pt, c.pl, e1, X O0, e4]
  have O1 := O0.w (i := 0) (x := ss 6 p)
  rw [X O1, e5]
  have O2 := O1.w (i := 1) (x := pp 5 p)
  rw [X O2, e6]
  have O3 := O2.w (i := 2) (x := pp 6 p)
  have c3 := c.fp O3.f (Int.le_refl _) (Int.le_refl _)
  refine ⟨rfl, by decide, fun _ => ⟨rfl, ⟨Or.inl rfl, p0, p1⟩, c.nn.2.2.2.1 _ p0 p1, ⟨⟨by decide, Or.inr (by omega)⟩, by omega, by show ns + 8 ≤ _; omega⟩, IX O0 (by decide) (by decide), O0.ix (by decide) (by decide), IX O1 (by decide) (by decide), O1.ix (by decide) (by decide), IX O2 (by decide) (by decide), O2.ix (by decide) (by decide), c3.t, s156 c3 p0 p1 (okx ?_)⟩, fun z => absurd p1 z⟩
  have O4 := O3.w (i := 3) (x := s_nf pp ss p)
  rw [X O4, e7]
  have O5 := O4.w (i := 4) (x := ss 7 p)
  rw [X O5, e8]
  have O6 := O5.w (i := 5) (x := ss 8 p)
  have c6 := c.fp O6.f (Int.le_refl _) (Int.le_refl _)
  refine ⟨O3.ix (by decide) (by decide), IX O4 (by decide) (by decide), O4.ix (by decide) (by decide), IX O5 (by decide) (by decide), O5.ix (by decide) (by decide), c6.t, s160 c6 (okx ?_)⟩
  have fin : ∀ (g : AH) (x : Int), OA h g (am_n h) 8 (vt9 (vt9 (vt9 (vt9 (vt9 (vt9 (fun _ => 0) 0 (ss 6 p)) 1 (pp 5 p)) 2 (pp 6 p)) 3 (s_nf pp ss p)) 4 (ss 7 p)) 5 (ss 8 p)) → x = (if s_bn pp ss tt p = true then 1 else 0) → am_call (d + 7) 157 [(2, a), (0, p)] (am_w g (am_n h) 6 x) (fun x7 v8 h9 => am_okx x7 ((am_t h9 (am_n h) = 20 ∧ 0 ≤ (7 : Int) ∧ 7 < am_l h9 (am_n h)) ∧ (¬ am_n h = -1) ∧ WP (d + 7 + 1) 172 (290, [(2, a), (2, 0), y2, (0, p), (2, A 5 p), (2, am_n h), (0, 0), y7, y8, y9, y10], [], (am_w h9 (am_n h) 7 v8), nc + 1, ns + (8 : Int).toNat) K)) := by
    intro g x o hx
    have o7 := o.w (i := 6) (x := x)
    have c7 := c.fp o7.f (Int.le_refl _) (Int.le_refl _)
    refine s157 c7 p0 p1 (okx ⟨o7.ix (by decide) (by decide), by omega, ?_⟩)
    have o8 := o7.w (i := 7) (x := s_cf pp ss p)
    refine s172_290 (B.fp o8.f (Int.le_refl _) (Int.le_refl _)) p0 p1 ⟨⟨gn, by rw [o8.e]; omega⟩, o8.t, o8.l, fun t t0 t1 => (o8.m t).trans ?_⟩ (by omega) (by show ns + 8 + 118 ≤ _; omega) (fun h2 y5 y6 nc2 ns2 B2 q1 q2 => k h2 _ y5 y6 nc2 ns2 B2 (by omega) (by
      have : ns2 ≤ ns + 8 + 118 := q2
      omega))
    have hc : t = 0 ∨ t = 1 ∨ t = 2 ∨ t = 3 ∨ t = 4 ∨ t = 5 ∨ t = 6 ∨ t = 7 := by omega
    rcases hc with e | e | e | e | e | e | e | e <;> subst e
    · rfl
    · rfl
    · rfl
    · rfl
    · rfl
    · rfl
    · exact hx
    · rfl
  have hb := hq ss c.si p p0 p1
  refine ⟨fun z => ⟨O6.ix (by decide) (by decide), ?_, fin _ 0 O6 ?_⟩, fun z => ⟨O6.ix (by decide) (by decide), ?_, fin _ 1 O6 ?_⟩⟩
  · exact (c.fp (O6.w (i := 6) (x := 0)).f (Int.le_refl _) (Int.le_refl _)).t
  · rw [← hb, bI_e0 z]; rfl
  · exact (c.fp (O6.w (i := 6) (x := 1)).f (Int.le_refl _) (Int.le_refl _)).t
  · rw [← hb, bI_e1 z]; rfl
theorem s172_66 {w : Int} {nc ns : Nat} {y2 y10 : AV} (B : BO h a A pp ss bb tt tp er q dq) (w0 : 0 ≤ w) (w1 : w < pp 0 0) (hnc : nc + 4 ≤ 600) (hns : ns + 24 ≤ 20000)
    (k : ∀ h2 y4 y5 y6 y7 y8 y9 y10 nc2 ns2, BO h2 a A pp ss bb tt tp er q dq → nc2 ≤ nc + 4 → ns2 ≤ ns + 24 → WP (d + 8) 172 (34, [(2, a), (2, 0), y2, (0, w + 1), y4, y5, y6, y7, y8, y9, y10], [], h2, nc2, ns2) K) :
    WP (d + 8) 172 (66, [(2, a), (2, 0), y2, (0, w), (0, 0), (0, 0), (0, 0), (2, A 1 0), (0, pp 1 0), (0, 0), y10], [], h, nc, ns) K := by
  have hN := B.c.p1
  have c := B.c
  have hw := c.pi.nw
  refine lp_in (S := AV) (fun n y => (66, [(2, a), (2, 0), y2, (0, w), (0, sm (f_ow pp ss w 1) n), (0, sm (f_ow pp ss w 2) n), (0, sm (f_ow pp ss w 3) n), (2, A 1 0), (0, pp 1 0), (0, (n : Int)), y], [], h, nc, ns)) (fun _ _ => True) (pp 1 0).toNat (fun n y hn _ nx => ?_) (fun y _ => ?_) y10 trivial
  · obtain ⟨e1, e2, e3, e4, e5, e6, e7, e8⟩ := c.p (n : Int) (by omega) (by omega)
    have hc := c.si.cost (i := (n : Int)) (by omega) (by omega)
    have h7 := c.si.built (i := (n : Int)) (by omega) (by omega)
    have bd : ∀ t, (t = 1 ∨ t = 2 ∨ t = 3) → 0 ≤ sm (f_ow pp ss w t) n ∧ sm (f_ow pp ss w t) n ≤ 9999 * (n : Int) := fun t ht => sm_bd (fun i hi => by
      have := c.si.cost (i := (i : Int)) (by omega) (by omega)
      unfold f_ow
      split
      · split
        · omega
        · split
          · omega
          · split <;> omega
      · omega)
    have b1 := bd 1 (by omega)
    have b2 := bd 2 (by omega)
    have b3 := bd 3 (by omega)
    have s1 : sm (f_ow pp ss w 1) (n + 1) = sm (f_ow pp ss w 1) n + (if pp 5 (n : Int) = w then 1 else 0) := rfl
    have s2 : sm (f_ow pp ss w 2) (n + 1) = sm (f_ow pp ss w 2) n + (if pp 5 (n : Int) = w then (if ss 7 (n : Int) = -1 then 0 else 1) else 0) := rfl
    have s3 : sm (f_ow pp ss w 3) (n + 1) = sm (f_ow pp ss w 3) n + (if pp 5 (n : Int) = w then (if ss 7 (n : Int) = -1 then 0 else ss 6 (n : Int)) else 0) := rfl
    have nx' := fun y => nx y trivial
    generalize sm (f_ow pp ss w 1) (n + 1) = S1 at s1 nx'
    generalize sm (f_ow pp ss w 2) (n + 1) = S2 at s2 nx'
    generalize sm (f_ow pp ss w 3) (n + 1) = S3 at s3 nx'
    generalize sm (f_ow pp ss w 1) n = z1 at s1 b1 ⊢
    generalize sm (f_ow pp ss w 2) n = z2 at s2 b2 ⊢
    generalize sm (f_ow pp ss w 3) n = z3 at s3 b3 ⊢
    have x1 : w32 (z1 + 1) = z1 + 1 := w32_id (by omega) (by omega)
    have x2 : w32 (z2 + 1) = z2 + 1 := w32_id (by omega) (by omega)
    have x3 : w32 (z2 + 0) = z2 := by rw [Int.add_zero]; exact w32_id (by omega) (by omega)
    have x4 : w32 (z3 + 0) = z3 := by rw [Int.add_zero]; exact w32_id (by omega) (by omega)
    have x5 : w32 (z3 + ss 6 (n : Int)) = z3 + ss 6 (n : Int) := w32_id (by omega) (by omega)
    refine v172_66 ?_
    rw [c.pt, c.pl, e1, e2, e3, e4, e5, e7, x1, x2, x3, x4, x5, show w32 ((n : Int) + 1) = ((n + 1 : Nat) : Int) by rw [w32_id (by omega) (by omega)]; omega]
    clear x1 x2 x3 x4 x5
    refine ⟨fun _ => ⟨⟨Or.inl rfl, by omega, by omega⟩, c.nn.2.2.2.1 _ (by omega) (by omega), ⟨rfl, by decide, by decide⟩, fun z => ⟨⟨rfl, by decide, by decide⟩, fun y => ⟨⟨rfl, by decide, by decide⟩, fun _ => ?_, fun u => absurd y u⟩, fun y => ⟨⟨rfl, by decide, by decide⟩, fun u => absurd u y, fun _ => ⟨⟨rfl, by decide, by decide⟩, ?_⟩⟩⟩, fun z => ?_⟩, fun z => absurd (show (n : Int) < pp 1 0 by omega) z⟩
    · rw [if_pos z] at s1
      rw [if_pos z, if_pos (by omega)] at s2 s3
      rw [show z1 + 1 = S1 by omega, show z2 = S2 by omega, show z3 = S3 by omega]
      exact nx' _
    · rw [if_pos z] at s1
      rw [if_pos z, if_neg (by omega)] at s2 s3
      rw [show z1 + 1 = S1 by omega, show z2 + 1 = S2 by omega, show z3 + ss 6 (n : Int) = S3 by omega]
      exact nx' _
    · rw [if_neg z] at s1 s2 s3
      rw [show z1 = S1 by omega, show z2 = S2 by omega, show z3 = S3 by omega]
      exact nx' _
  · have o1 : sm (f_ow pp ss w 1) (pp 1 0).toNat = s_ow pp ss w 1 := rfl
    have o2 : sm (f_ow pp ss w 2) (pp 1 0).toNat = s_ow pp ss w 2 := rfl
    have o3 : sm (f_ow pp ss w 3) (pp 1 0).toNat = s_ow pp ss w 3 := rfl
    show WP _ _ (66, [(2, a), (2, 0), y2, (0, w), (0, sm (f_ow pp ss w 1) (pp 1 0).toNat), (0, sm (f_ow pp ss w 2) (pp 1 0).toNat), (0, sm (f_ow pp ss w 3) (pp 1 0).toNat), (2, A 1 0), (0, pp 1 0), (0, (((pp 1 0).toNat : Nat) : Int)), y], [], h, nc, ns) K
    rw [o1, o2, o3]
    have t0 := B.g.t0
    obtain ⟨w3, w4, w5⟩ := c.caps
    have w6 := w5 w w0 w1
    have q0 : s_ow pp ss w 0 = pp 4 w := rfl
    have c0 : ∀ t : Int, 0 ≤ t ∧ t ≤ 3 → ¬ ((0 ≤ w ∧ w < pp 0 0) ∧ 0 ≤ t ∧ t ≤ 3) → False := fun t ht z => z ⟨⟨w0, w1⟩, ht⟩
    refine v172_66 ⟨fun z => absurd z (by omega), fun _ => ⟨⟨t0, by omega, by omega⟩, c109 B.g (fun _ => okx ⟨c.t, ?_⟩) (fun z => (c0 0 (by decide) z).elim)⟩⟩
    rw [c.m4, w3, w4, w6, q0]
    refine ⟨⟨rfl, w0, w1⟩, fun _ => ⟨⟨t0, by omega, by omega⟩, c109 B.g (fun _ => okx ⟨fun _ => ⟨⟨t0, by omega, by omega⟩, c109 B.g (fun _ => okx ⟨fun _ => ⟨⟨t0, by omega, by omega⟩, c109 B.g (fun _ => okx ⟨fun _ => ?_, fun z => absurd rfl z⟩) (fun z => (c0 3 (by decide) z).elim)⟩, fun z => absurd rfl z⟩) (fun z => (c0 2 (by decide) z).elim)⟩, fun z => absurd rfl z⟩) (fun z => (c0 1 (by decide) z).elim)⟩, fun z => absurd rfl z⟩
    rw [w32_id (x := w + 1) (by omega) (by omega)]
    exact k h _ _ _ _ _ _ _ _ _ B (by omega) (by omega)
theorem s172_495 {v l3 : Int} {nc ns : Nat} {y2 y5 y7 y8 y9 y10 : AV} (B : BO h a A pp ss bb tt tp er q dq) (v0 : 0 ≤ v) (v1 : v < pp 2 0) (hl : 0 ≤ l3 ∧ l3 ≤ 10000) (hnc : nc + 7 ≤ 600) (hns : ns + 42 ≤ 20000)
    (k : ∀ y5 y6 nc2 ns2, nc2 ≤ nc + 7 → ns2 ≤ ns + 42 → WP (d + 8) 172 (346, [(2, a), (2, 0), y2, (0, l3 + s_pl pp ss v), (0, v + 1), y5, y6, y7, y8, y9, y10], [], h, nc2, ns2) K) :
    WP (d + 8) 172 (495, [(2, a), (2, 0), y2, (0, l3), (0, v), y5, (0, 0), y7, y8, y9, y10], [], h, nc, ns) K := by
  have hN := B.c.p1
  have c := B.c
  have pb := pl_bd (v := v) c.pi c.si
  refine lp_in (S := Nat × Nat) (fun n s => (495, [(2, a), (2, 0), y2, (0, l3), (0, v), y5, (0, (n : Int)), y7, y8, y9, y10], [], h, s.1, s.2)) (fun n s => s.1 ≤ nc + n ∧ s.2 ≤ ns + 6 * n) (pp 2 0).toNat (fun n s hn I nx => ?_) (fun s I => ?_) (nc, ns) ⟨Nat.le_refl _, by show ns ≤ ns + 6 * 0; omega⟩
  · obtain ⟨c1, c2⟩ := s
    obtain ⟨b1, b2⟩ := I
    dsimp only at b1 b2 ⊢
    refine v172_495 ?_
    rw [c.t, c.m6, c.vt, c.vl, B.g.t0, show w32 ((n : Int) + 1) = ((n + 1 : Nat) : Int) by rw [w32_id (by omega) (by omega)]; omega]
    exact ⟨rfl, by decide, fun _ => ⟨⟨rfl, by omega, by omega⟩, c114 B.g (fun _ => okx ⟨c.t, s158 c (by omega) (by omega) (okx ⟨c.t, s158 c v0 v1 (okx ⟨fun _ => nx (_, _) ⟨by show c1 + 1 ≤ _; omega, by show c2 + 6 ≤ _; omega⟩, fun z => absurd rfl z⟩)⟩)⟩) (fun z => absurd ⟨⟨v0, v1⟩, by omega, by omega⟩ z)⟩, fun z => absurd (show (n : Int) < pp 2 0 by omega) z⟩
  · obtain ⟨c1, c2⟩ := s
    obtain ⟨b1, b2⟩ := I
    dsimp only at b1 b2 ⊢
    refine v172_495 ?_
    rw [c.t, c.m6, c.vt, c.vl]
    refine ⟨rfl, by decide, fun z => absurd z (by omega), fun _ => ⟨rfl, s158 c v0 v1 (okx ?_)⟩⟩
    rw [w32_id (x := l3 + s_pl pp ss v) (by omega) (by omega), w32_id (x := v + 1) (by omega) (by omega)]
    exact k _ _ _ _ (by omega) (by omega)
theorem s172_362 {v l3 : Int} {nc ns : Nat} {y2 y7 y8 y9 y10 : AV} (B : BO h a A pp ss bb tt tp er q dq) (v0 : 0 ≤ v) (v1 : v < pp 2 0) (hl : 0 ≤ l3 ∧ l3 ≤ 10000) (hnc : nc + 18 ≤ 600) (hns : ns + 108 ≤ 20000)
    (k : ∀ y5 y6 nc2 ns2, nc2 ≤ nc + 18 → ns2 ≤ ns + 108 → WP (d + 8) 172 (346, [(2, a), (2, 0), y2, (0, l3 + s_pl pp ss v), (0, v + 1), y5, y6, y7, y8, y9, y10], [], h, nc2, ns2) K) :
    WP (d + 8) 172 (362, [(2, a), (2, 0), y2, (0, l3), (0, v), (0, 0), (0, 0), y7, y8, y9, y10], [], h, nc, ns) K := by
  have hN := B.c.p1
  have c := B.c
  obtain ⟨r1, r2, r3, r4⟩ := c.l v v0 v1
  obtain ⟨u1, u2, u3, u4, u5⟩ := c.v v v0 v1
  refine lp_in (S := Nat × Nat) (fun n s => (362, [(2, a), (2, 0), y2, (0, l3), (0, v), (0, sm (f_lk ss v) n), (0, (n : Int)), y7, y8, y9, y10], [], h, s.1, s.2)) (fun n s => s.1 ≤ nc + n ∧ s.2 ≤ ns + 6 * n) (pp 1 0).toNat (fun n s hn I nx => ?_) (fun s I => ?_) (nc, ns) ⟨Nat.le_refl _, by show ns ≤ ns + 6 * 0; omega⟩
  · obtain ⟨c1, c2⟩ := s
    obtain ⟨b1, b2⟩ := I
    dsimp only at b1 b2 ⊢
    have r5 := r4 (n : Int) (by omega) (by omega)
    have h9 := c.s9 (12 * v + (n : Int))
    have sb := sm_bd (f := f_lk ss v) (B := 1) (n := n) (fun j hj => by
      have := c.s9 (12 * v + (j : Int))
      unfold f_lk
      omega)
    have st : sm (f_lk ss v) (n + 1) = sm (f_lk ss v) n + ss 9 (12 * v + (n : Int)) := rfl
    refine v172_362 ?_
    rw [c.t, c.m5, c.m7, c.pt, c.pl, c.lt, c.ll, r1, r2, r3, r5, B.g.t0, show w32 ((n : Int) + 1) = ((n + 1 : Nat) : Int) by rw [w32_id (by omega) (by omega)]; omega]
    refine ⟨rfl, by decide, fun _ => ⟨rfl, ⟨Or.inr rfl, v0, v1⟩, ⟨rfl, by omega, by omega⟩, fun z => ⟨⟨rfl, by omega, by omega⟩, c113 B.g (fun _ => okx ?_) (fun z => absurd ⟨⟨v0, v1⟩, by omega, by omega⟩ z)⟩, fun z => ⟨⟨rfl, by omega, by omega⟩, c113 B.g (fun _ => okx ?_) (fun z => absurd ⟨⟨v0, v1⟩, by omega, by omega⟩ z)⟩⟩, fun z => absurd (show (n : Int) < pp 1 0 by omega) z⟩
    · rw [c.t, c.m7, c.lt, c.ll, r1, r2, r3, r5, show w32 (sm (f_lk ss v) n + 0) = sm (f_lk ss v) (n + 1) by rw [w32_id (by omega) (by omega)]; omega]
      exact ⟨rfl, ⟨Or.inr rfl, v0, v1⟩, ⟨rfl, by omega, by omega⟩, fun _ => nx (_, _) ⟨by show c1 + 1 ≤ _; omega, by show c2 + 6 ≤ _; omega⟩, fun z => absurd rfl z⟩
    · rw [c.t, c.m7, c.lt, c.ll, r1, r2, r3, r5, show w32 (sm (f_lk ss v) n + 1) = sm (f_lk ss v) (n + 1) by rw [w32_id (by omega) (by omega)]; omega]
      exact ⟨rfl, ⟨Or.inr rfl, v0, v1⟩, ⟨rfl, by omega, by omega⟩, fun _ => nx (_, _) ⟨by show c1 + 1 ≤ _; omega, by show c2 + 6 ≤ _; omega⟩, fun z => absurd rfl z⟩
  · obtain ⟨c1, c2⟩ := s
    obtain ⟨b1, b2⟩ := I
    dsimp only at b1 b2 ⊢
    have t0 := B.g.t0
    have el : sm (f_lk ss v) (pp 1 0).toNat = s_ov pp ss v 1 := rfl
    have c0 : ∀ t : Int, 0 ≤ t ∧ t ≤ 3 → ¬ ((0 ≤ v ∧ v < pp 2 0) ∧ 0 ≤ t ∧ t ≤ 3) → False := fun t ht z => z ⟨⟨v0, v1⟩, ht⟩
    have q0 : s_ov pp ss v 0 = ss 4 v := rfl
    have q2 : s_ov pp ss v 2 = s_pl pp ss v := rfl
    have q3 : s_ov pp ss v 3 = ss 5 v := rfl
    refine v172_362 ?_
    rw [c.t, c.m5, c.pt, c.pl, t0, el]
    refine ⟨rfl, by decide, fun z => absurd z (by omega), fun _ => ⟨⟨rfl, by omega, by omega⟩, c112 B.g (fun _ => okx ?_) (fun z => (c0 0 (by decide) z).elim)⟩⟩
    rw [c.t, c.m6, c.vt, c.vl, u1, u2, u3, u4, t0, q0]
    refine ⟨rfl, ⟨Or.inl rfl, v0, v1⟩, ⟨rfl, by decide, by decide⟩, fun _ => ⟨⟨rfl, by omega, by omega⟩, c112 B.g (fun _ => okx ⟨fun _ => ⟨⟨t0, by omega, by omega⟩, c112 B.g (fun _ => okx ⟨c.t, s158 c v0 v1 (okx ⟨fun _ => ⟨⟨t0, by omega, by omega⟩, c112 B.g (fun _ => okx ?_) (fun z => (c0 3 (by decide) z).elim)⟩, fun z => absurd q2 z⟩)⟩) (fun z => (c0 2 (by decide) z).elim)⟩, fun z => absurd rfl z⟩) (fun z => (c0 1 (by decide) z).elim)⟩, fun z => absurd rfl z⟩
    rw [c.t, c.m6, c.vt, c.vl, u1, u2, u3, u5, q3]
    exact ⟨rfl, ⟨Or.inl rfl, v0, v1⟩, ⟨rfl, by decide, by decide⟩, fun _ => s172_495 B v0 v1 hl (by omega) (by omega) (fun y5 y6 nc2 ns2 w1 w2 => k y5 y6 nc2 ns2 (by omega) (by omega)), fun z => absurd rfl z⟩
/-- in the end all is as by hand -/
theorem s172 (B : BO h a A pp ss bb tt tp er q dq) (hq : HQ pp bb tt) (k : ∀ h2, K 0 1 h2) : am_call (d + 8) 172 [(2, a), (2, 0)] h K := by
  have hN := B.c.p1
  have gn := B.g.n
  have hI := B.c.pi
  refine v172 ⟨⟨B.c.t, by decide, by decide⟩, s171 B.c B.g.sb gn (fun g f r => okx ⟨by omega, ?_⟩)⟩
  have B1 := B.fp f (Int.le_refl _) (Int.le_refl _)
  generalize am_n h = u at r
  clear f gn
  suffices H34 : ∀ (j i : Nat), i + j = (pp 0 0).toNat → ∀ (g : AH) (y4 y5 y6 y7 y8 y9 y10 : AV) (nc ns : Nat), BO g a A pp ss bb tt tp er q dq → nc ≤ 13 + 4 * i → ns ≤ 84 + 24 * i → WP (d + 8) 172 (34, [(2, a), (2, 0), (2, u), (0, (i : Int)), y4, y5, y6, y7, y8, y9, y10], [], g, nc, ns) K by
    refine lp_in (S := Nat × Nat) (fun n s => (7, [(2, a), (2, 0), (2, u), (0, (n : Int)), (9, 0), (9, 0), (9, 0), (9, 0), (9, 0), (9, 0), (9, 0)], [], g, s.1, s.2)) (fun n s => s.1 ≤ 1 + n ∧ s.2 ≤ 12 + 6 * n) 12 (fun n s hn I nx => ?_) (fun s I => ?_) (1, 12) ⟨Nat.le_refl _, Nat.le_refl _⟩
    · obtain ⟨c1, c2⟩ := s
      obtain ⟨b1, b2⟩ := I
      dsimp only at b1 b2 ⊢
      refine v172_7 ⟨fun _ => ⟨⟨B1.g.t0, by omega, by omega⟩, c107 B1.g (fun _ => okx ?_) (fun z => absurd ⟨by omega, by omega⟩ z)⟩, fun z => absurd (show (n : Int) < 12 by omega) z⟩
      rw [r.t, r.l, r.m (n : Int) (by omega) (by omega), show w32 ((n : Int) + 1) = ((n + 1 : Nat) : Int) by rw [w32_id (by omega) (by omega)]; omega]
      exact ⟨⟨rfl, by omega, by omega⟩, fun _ => nx (_, _) ⟨by show c1 + 1 ≤ _; omega, by show c2 + 6 ≤ _; omega⟩, fun z => absurd rfl z⟩
    · obtain ⟨c1, c2⟩ := s
      obtain ⟨b1, b2⟩ := I
      dsimp only at b1 b2 ⊢
      exact v172_7 ⟨fun z => absurd z (by decide), fun _ => H34 _ 0 (Nat.zero_add _) g _ _ _ _ _ _ _ _ _ B1 (by omega) (by omega)⟩
  have hw := hI.nw
  suffices H195 : ∀ (j i : Nat), i + j = (pp 1 0).toNat → ∀ (g : AH) (y4 y5 y6 y7 y8 y9 y10 : AV) (nc ns : Nat), BO g a A pp ss bb tt tp er q dq → nc ≤ 29 + 11 * i → ns ≤ 180 + 126 * i → WP (d + 8) 172 (195, [(2, a), (2, 0), (2, u), (0, (i : Int)), y4, y5, y6, y7, y8, y9, y10], [], g, nc, ns) K by
    intro j
    induction j with
    | zero =>
      intro i hij g y4 y5 y6 y7 y8 y9 y10 nc ns B b1 b2
      refine v172_34 ?_
      rw [B.c.t, B.c.m4, B.c.caps.1, B.c.caps.2.1]
      exact ⟨rfl, by decide, fun z => absurd z (by omega), fun _ => H195 _ 0 (Nat.zero_add _) g _ _ _ _ _ _ _ _ _ B (by omega) (by omega)⟩
    | succ j ih =>
      intro i hij g y4 y5 y6 y7 y8 y9 y10 nc ns B b1 b2
      refine v172_34 ?_
      rw [B.c.t, B.c.m4, B.c.caps.1, B.c.caps.2.1, B.c.m5, B.c.pt, B.c.pl]
      refine ⟨rfl, by decide, fun _ => ⟨rfl, B.c.nr.1, by decide, s172_66 B (by omega) (by omega) (by omega) (by omega) (fun h2 y4 y5 y6 y7 y8 y9 y10 nc2 ns2 B2 q1 q2 => ?_)⟩, fun z => absurd (show (i : Int) < pp 0 0 by omega) z⟩
      exact ih (i + 1) (by omega) h2 _ _ _ _ _ _ _ _ _ B2 (by omega) (by omega)
  suffices H346 : ∀ (j i : Nat), i + j = (pp 2 0).toNat → ∀ (g : AH) (y5 y6 y7 y8 y9 y10 : AV) (nc ns : Nat), BO g a A pp ss bb tt tp er q dq → nc ≤ 106 + 18 * i → ns ≤ 1062 + 108 * i → WP (d + 8) 172 (346, [(2, a), (2, 0), (2, u), (0, sm (s_pl pp ss) i), (0, (i : Int)), y5, y6, y7, y8, y9, y10], [], g, nc, ns) K by
    intro j
    induction j with
    | zero =>
      intro i hij g y4 y5 y6 y7 y8 y9 y10 nc ns B b1 b2
      refine v172_195 ?_
      rw [B.c.t, B.c.m5, B.c.pt, B.c.pl]
      exact ⟨rfl, by decide, fun z => absurd z (by omega), fun _ => H346 _ 0 (Nat.zero_add _) g _ _ _ _ _ _ _ _ B (by omega) (by omega)⟩
    | succ j ih =>
      intro i hij g y4 y5 y6 y7 y8 y9 y10 nc ns B b1 b2
      refine s172_195 B hq (by omega) (by omega) (by omega) (by omega) (fun h2 y4 y5 y6 nc2 ns2 B2 q1 q2 => ?_)
      exact ih (i + 1) (by omega) h2 _ _ _ _ _ _ _ _ _ B2 (by omega) (by omega)
  intro j
  induction j with
  | zero =>
    intro i hij g y5 y6 y7 y8 y9 y10 nc ns B b1 b2
    have c := B.c
    have gn := B.g.n
    have ps := ps_bd hI c.si i (by omega)
    refine v172_346 ?_
    rw [c.t, c.m6, c.vt, c.vl]
    refine ⟨rfl, by decide, fun z => absurd z (by omega), fun _ => ⟨⟨rfl, by omega, by omega⟩, s169 c (by omega) (fun g2 A2 f2 c2 n2 r2 q2 => okx ⟨by omega, c2.t, s163 c2 (fun g3 c3 f3 n3 => okx ?_)⟩)⟩⟩
    have B2 := B.fp f2 (Int.le_refl _) (Int.le_refl _)
    have r2' : ∀ b, SR A2 pp (am_n g) b → 53 ≤ b := fun b hb => by have := r2 b hb; omega
    have G3 := B2.g.fx3 f3 r2'
    have C3 : SM g3 a A pp ss bb := B2.c.kp (Q := fun b => b < 0) (B2.o.mono (fun b z => z.2)) f3.1 (fun b hb q => ⟨(f3.2.2.2.1 b hb).1, (f3.2.2.2.1 b hb).2, fun i => f3.2.2.2.2 b hb (fun z => by have := r2' b z; omega) i⟩)
    refine ⟨G3.t0, c115 G3 (fun g4 f4 G4 => okx ?_)⟩
    have C4 := C3.fr (B.o.mono (fun b z => Or.inl z.2)) f4 (by decide) (by decide)
    have D4 : SM g4 (am_n g) A2 pp (s_col pp ss) bb := c3.kp (Q := fun b => b < 0 ∨ 53 ≤ b) ?_ f4.1 (fun b hb q => ⟨(f4.2.2.2.1 b hb).1, (f4.2.2.2.1 b hb).2, fun i => f4.2.2.2.2 b hb (by omega) i⟩)
    · refine ⟨⟨D4.t, by omega, by omega⟩, s164 D4 (hq _ D4.si) (by have := G4.n; omega) (fun g5 f5 n5 => okx ?_)⟩
      have G5 := G4.fp f5 (Int.le_refl _) (Int.le_refl _)
      have C5 := C4.fp f5 (Int.le_refl _) (Int.le_refl _)
      refine ⟨fun _ => ⟨G5.t0, c125 G5 (okx ?_)⟩, fun z => absurd rfl z⟩
      have nv0 : ¬ pp 2 0 = 0 := by omega
      have em : s_mn pp ss = ((am_dd (am_i2d (sm (s_pl pp ss) i)) (am_i2d (pp 2 0))).toNat : Int) := by
        unfold s_mn s_ps
        rw [if_neg nv0, show (pp 2 0).toNat = i by omega]
      have ok1 := mean_ok (sm (s_pl pp ss) i).toNat (by omega) (pp 2 0).toNat (by omega) (by omega)
      have ok2 := dcl_ok (sm (s_pl pp ss) i).toNat (by omega) (pp 2 0).toNat (by omega) (by omega)
      rw [Int.toNat_of_nonneg ps.1, Int.toNat_of_nonneg (by omega : 0 ≤ pp 2 0)] at ok1 ok2
      rw [C5.t, C5.m6, C5.vt, C5.vl, em]
      exact ⟨rfl, by decide, fun z => absurd z nv0, fun _ => ⟨rfl, by decide, ok1, fun _ => ⟨Or.inr rfl, k g5⟩, fun z => absurd ok2 z⟩⟩
    · obtain ⟨oa, o0, o1, o2, o3, o4, o5, o6, o8⟩ := B.o
      exact q2 _ (fun b hb => Or.inr (by omega)) (Or.inl o0.2) (Or.inl o4.2) (fun i i0 i1 => Or.inl (o8 i i0 i1).2)
  | succ j ih =>
    intro i hij g y5 y6 y7 y8 y9 y10 nc ns B b1 b2
    have c := B.c
    have ps := ps_bd hI c.si i (by omega)
    refine v172_346 ?_
    rw [c.t, c.m6, c.vt, c.vl]
    refine ⟨rfl, by decide, fun _ => s172_362 B (by omega) (by omega) (by omega) (by omega) (by omega) (fun y5 y6 nc2 ns2 q1 q2 => ?_), fun z => absurd (show (i : Int) < pp 2 0 by omega) z⟩
    exact ih (i + 1) (by omega) g _ _ _ _ _ _ _ _ B (by omega) (by omega)
end
