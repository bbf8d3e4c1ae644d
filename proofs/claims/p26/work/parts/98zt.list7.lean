/-! ===== the law's list: bans ===== -/
theorem grp_len3 {lp : TT} {bb : Int → Int → Int} {n : Nat} (hn : n ≤ 5) : (lbs (grp (gB lp bb) n)).length ≤ 400 := by
  have := (grp_bd (g := gB lp bb) (x := 24) (y := 80) (N := n) (fun k hk => by
    have d1 := dg_l4 (x := bb (k : Int) 0)
    obtain ⟨t1, t2⟩ := tsB_len (pp := lp) (b := bb (k : Int))
    refine ⟨?_, ?_⟩
    · show (tsT lp (bb (k : Int))).length + 1 + 1 + 1 + 1 ≤ 24
      omega
    · show ([98, 97, 110, 32, 112] ++ dg (bb (k : Int) 0) ++ [32, 119, 104, 101, 110, 32] ++ tsB lp (bb (k : Int)) ++ [59]).length ≤ 80
      simp only [List.length_append, List.length_cons, List.length_nil]
      omega)).2
  omega
section
variable {h h2 : AH} {o a v v2 z B C P k V W D i x : Int} {lp : TT} {A : Int → Int} {Lk bb : Int → Int → Int}
theorem GV.w (g : GV h o a v lp C P A V W Lk) (hz : W + lp 2 0 < z) (h2 : 0 ≤ lp 2 0) : GV (am_w h z i x) o a v lp C P A V W Lk := by
  obtain ⟨⟨r1, r2⟩, r3⟩ := g.r
  have q1 := g.g1.q.2
  have q2 := g.g2.q.2
  exact ⟨g.g0.w (by omega), g.g1.w (Or.inl (by omega)) (by omega), g.g2.w (Or.inl (by omega)) (by omega) (fun j j0 j1 => by have := r3 j j0 j1; omega), g.g3.w (Or.inl (by omega)) (by omega) (fun j j0 j1 => by omega), g.g4.w (Or.inl (by omega)) (by omega) (fun j j0 j1 => by omega), g.r⟩
theorem GV.wo (g : GV h o a v lp C P A V W Lk) (h2 : 0 ≤ lp 2 0) : GV (am_w h o 8 x) o a v lp C P A V W Lk := by
  obtain ⟨⟨r1, r2⟩, r3⟩ := g.r
  have q1 := g.g1.q.2
  have q2 := g.g2.q.2
  exact ⟨g.g0.wo (by decide), g.g1.w (Or.inr (by decide)) (by omega), g.g2.w (Or.inr (by decide)) (by omega) (fun j j0 j1 => by have := (g.g2.m j j0 j1).2.1; omega), g.g3.w (Or.inr (by decide)) (by omega) (fun j j0 j1 => by omega), g.g4.w (Or.inr (by decide)) (by omega) (fun j j0 j1 => by omega), g.r⟩
end
section
variable {d : Nat} {L : Nat} {xs : Nat → Int32} {o a z : Int} {K : AK}
theorem wS {h : AH} {v N : Int} {M : Nat} {bs ts : List Int} {s w : Int} (x : BX (am_h0 L xs) h a v N M bs) (y : TS h s w ts) (nsa : ¬ s = a) (nsv : ¬ s = v) (nwa : ¬ w = a) (nwv : ¬ w = v) (hN : N < -6000) (hM : M + ts.length ≤ 2000) (k : ∀ h2 v2, BX (am_h0 L xs) h2 a v2 (N + 1) (M + ts.length) (bs ++ ts) → FV a v h h2 v2 → K 0 a h2) : am_call (d + 5) 129 [(2, a), (2, s)] h K := apS x y nsa nsv nwa nwv hN hM (fun h2 v2 x2 f2 o2 => k h2 v2 x2 ⟨f2, o2⟩)
theorem l551 (X : List LnT) (hX : (lbs X).length ≤ 845) {C P V W D : Int} {A : Int → Int} (hD : W + lpF (ceF L xs) 2 0 < D) : ∀ (j i : Nat), (i : Int) + (j : Int) = nbF (ceF L xs) → i + j ≤ 5 → ∀ (h : AH) (B8 : Int → Int) (v N : Int) (nc ns : Nat) (y4 y5 y6 y7 : AV), BX (am_h0 L xs) h a v N 1245 (lbs (X ++ grp (gB (lpF (ceF L xs)) (bbF (ceF L xs))) i)) → GV h o a v (lpF (ceF L xs)) C P A V W (LK (ceF L xs) (nvF (ceF L xs)) 0) → G5 h o a v (lpF (ceF L xs)) (bbF (ceF L xs)) D B8 (i : Int) → nc ≤ 232 + 66 * i → ns ≤ 4150 * nc → N ≤ -99999500 + (nc : Int) →
    (∀ (h : AH) (B8 : Int → Int) (v N : Int), BX (am_h0 L xs) h a v N 1245 (lbs (X ++ grp (gB (lpF (ceF L xs)) (bbF (ceF L xs))) (nbF (ceF L xs)).toNat)) → GV h o a v (lpF (ceF L xs)) C P A V W (LK (ceF L xs) (nvF (ceF L xs)) 0) → G5 h o a v (lpF (ceF L xs)) (bbF (ceF L xs)) D B8 (nbF (ceF L xs)) → N ≤ -99998500 → K 0 o h) →
    WP (d + 7) 177 (551, [(4, z), (2, a), (2, o), (0, (i : Int)), y4, y5, y6, y7], [], h, nc, ns) K := by
  intro j
  have en : lpF (ceF L xs) 1 0 = npF (ceF L xs) := rfl
  have ev : lpF (ceF L xs) 2 0 = nvF (ceF L xs) := rfl
  have eb3 : lpF (ceF L xs) 3 0 = nbF (ceF L xs) := rfl
  have rp := bl_rg (x := ceF L xs 5) (n := 7) (by decide)
  have ep : npF (ceF L xs) = 1 + bl (ceF L xs 5) 7 := rfl
  have rv := bl_rg (x := ceF L xs 8) (n := 7) (by decide)
  have evn : nvF (ceF L xs) = 1 + bl (ceF L xs 8) 7 := rfl
  induction j with
  | zero =>
    intro i hij hn h B8 v N nc ns y4 y5 y6 y7 B G g5 hc hs hN k
    refine v177_551 ?_
    rw [G.g0.t, g5.p, g5.t, g5.l, eb3]
    refine ⟨rfl, by decide, fun u => absurd u (by omega), fun _ => ?_⟩
    have e : i = (nbF (ceF L xs)).toNat := by omega
    have e2 : (i : Int) = nbF (ceF L xs) := by omega
    rw [e2] at g5
    subst e
    exact k h B8 v N B G g5 (by omega)
  | succ j ih =>
    intro i hij hn h B8 v N nc ns y4 y5 y6 y7 B G g5 hc hs hN k
    have kn := B.kx.n
    have q := g5.q
    have q' := q.1
    have ba := B.tb.a1
    have bv := B.tb.v1
    have tm : (i : Int).tmod 3 = (i : Int) % 3 := Int.tmod_eq_emod_of_nonneg (by omega)
    refine v177_551 ?_
    rw [G.g0.t, g5.p, g5.t, g5.l, eb3, tm, show w32 (13 + (i : Int) % 3) = 13 + (i : Int) % 3 from w32_id (by omega) (by omega)]
    refine ⟨rfl, by decide, fun _ => ⟨by decide, t174 B.kx (by omega) (okx (v177_570 ?_))⟩, fun u => absurd (show (i : Int) < nbF (ceF L xs) by omega) u⟩
    rw [show w32 (3 * (i : Int)) = 3 * (i : Int) from w32_id (by omega) (by omega)]
    have ex : am_shr (ceF L xs (13 + (i : Int) % 3)) (3 * (i : Int)) = xbF (ceF L xs) (i : Int) := rfl
    rw [ex]
    have O0 := OA.mk0 (h := h) (n := 5)
    have G0 := G.ko O0.ko
    rw [G0.g0.t, G0.g2.p, G0.g2.t, G0.g2.l, en]
    refine ⟨⟨⟨by decide, Or.inl (by omega)⟩, by omega, by show ns + 5 ≤ _; omega⟩, rfl, by decide, t173 (by omega) (okx (v177_593 ⟨O0.ix (by decide) (by decide), ?_⟩))⟩
    clear G0
    have O1 := O0.w (i := 0) (x := bl (am_shr (xbF (ceF L xs) (i : Int)) 2) (npF (ceF L xs)))
    generalize am_w (am_a h 20 5 (fun _ => 0)) (am_n h) 0 (bl (am_shr (xbF (ceF L xs) (i : Int)) 2) (npF (ceF L xs))) = k1 at O1 ⊢
    refine v177_594 (t173 (by decide) (okx (v177_603 ⟨O1.ix (by decide) (by decide), ?_⟩)))
    have O2 := O1.w (i := 1) (x := bl (xbF (ceF L xs) (i : Int)) 8)
    generalize am_w k1 (am_n h) 1 (bl (xbF (ceF L xs) (i : Int)) 8) = k2 at O2 ⊢
    refine v177_604 (t173 (by decide) (okx (v177_615 ⟨O2.ix (by decide) (by decide), ?_⟩)))
    have O3 := O2.w (i := 2) (x := bl (am_shr (xbF (ceF L xs) (i : Int)) 4) 20)
    generalize am_w k2 (am_n h) 2 (bl (am_shr (xbF (ceF L xs) (i : Int)) 4) 20) = k3 at O3 ⊢
    refine v177_616 (t173 (by decide) (okx (v177_628 ⟨O3.ix (by decide) (by decide), ?_⟩)))
    have O4 := O3.w (i := 3) (x := bl (am_shr (xbF (ceF L xs) (i : Int)) 6) 90)
    generalize am_w k3 (am_n h) 3 (bl (am_shr (xbF (ceF L xs) (i : Int)) 6) 90) = k4 at O4 ⊢
    refine v177_629 (t173 (by decide) (okx (v177_640 ⟨O4.ix (by decide) (by decide), ?_⟩)))
    have O5 := O4.w (i := 4) (x := bl (am_shr (xbF (ceF L xs) (i : Int)) 5) 42)
    generalize am_w k4 (am_n h) 4 (bl (am_shr (xbF (ceF L xs) (i : Int)) 5) 42) = k5 at O5 ⊢
    have hk5 : am_n k5 = am_n h + 1 := O5.e
    have V0 : ∀ j, 0 ≤ j → j < 5 → am_m k5 (am_n h) j = bbF (ceF L xs) (i : Int) j := fun j j0 j1 => by
      rw [O5.m]
      unfold vt9
      rcases (by omega : j = 0 ∨ j = 1 ∨ j = 2 ∨ j = 3 ∨ j = 4) with e | e | e | e | e <;> subst e <;> rfl
    have ko := O5.ko
    have T5 := O5.t
    have L5 := O5.l
    clear O0 O1 O2 O3 O4 O5
    have B5 := B.ko ko (B.kx.ko ko (N2 := N + 1) (by omega))
    have G5' := G.ko ko
    have g55 := g5.ko G.g0.q ko
    refine v177_641 ?_
    rw [G5'.g0.t, g55.p, g55.t, g55.l, eb3, T5]
    have Bw := B5.w (z := D) (i := (i : Int)) (y := am_n h) ⟨by omega, q.2.1, q.2.2⟩
    have Gw := G5'.w (z := D) (i := (i : Int)) (x := am_n h) hD (by omega)
    have qo := G.g0.q
    have qo' := qo.1
    have oD : ¬ o = D := by
      have r := G.r.1
      have q1 := G.g1.q.2
      have q2 := G.g2.q.2
      omega
    have g5w : G5 (am_w k5 D (i : Int) (am_n h)) o a v (lpF (ceF L xs)) (bbF (ceF L xs)) D (vt9 B8 (i : Int) (am_n h)) ((i + 1 : Nat) : Int) := by
      refine ⟨g55.q, by rw [am_m_w, if_neg (fun u => oD u.1)]; exact g55.p, g55.t, g55.l, fun n n0 n1 => ?_⟩
      by_cases e : n = (i : Int)
      · have ev : vt9 B8 (i : Int) (am_n h) n = am_n h := if_pos e
        rw [ev]
        refine ⟨⟨⟨by omega, by show am_n h < am_n k5; omega⟩, by omega, by omega⟩, by omega, by rw [am_m_w, if_pos ⟨rfl, e⟩], T5, L5, fun j j0 j1 => ?_⟩
        rw [am_m_w, if_neg (by omega), e]
        exact V0 j j0 j1
      · have ev : vt9 B8 (i : Int) (am_n h) n = B8 n := if_neg e
        obtain ⟨m1, m2, m3, m4, m5, m6⟩ := g55.m n n0 (by omega)
        rw [ev]
        exact ⟨m1, m2, by rw [am_m_w, if_neg (fun u => e u.2)]; exact m3, m4, m5, fun j j0 j1 => by rw [am_m_w, if_neg (by omega)]; exact m6 j j0 j1⟩
    have nk6 : am_n (am_w k5 D (i : Int) (am_n h)) = am_n k5 := rfl
    have ei : vt9 B8 (i : Int) (am_n h) (i : Int) = am_n h := if_pos rfl
    refine ⟨by omega, rfl, ⟨Or.inl ⟨rfl, rfl⟩, by omega, by omega⟩, ⟨Bw.tb.t, by omega, by show ns + 5 + 4150 ≤ _; omega⟩, ?_⟩
    generalize am_w k5 D (i : Int) (am_n h) = k6 at Bw Gw g5w nk6 ⊢
    clear B5 G5' g55 T5 L5 V0
    obtain ⟨-, r0, r1, r2, r3, r4⟩ := (lpF_LA (c := ceF L xs)).k (i : Int) (by omega) (by omega)
    have rr : (npF (ceF L xs)).toNat = npF (ceF L xs) := by omega
    refine wC Bw 34 rfl (by decide) (ts := [98, 97, 110, 32, 112]) rfl (by omega) (by simp) (fun h2 v2 B2 f2 => okx (v177_657 ?_))
    have a2 := g5w.fv Gw.g0.q f2
    obtain ⟨m1, m2, m3, m4, m5, m6⟩ := a2.m (i : Int) (by omega) (by omega)
    rw [ei] at m1 m2 m3 m4 m5 m6
    rw [m4, m5, m6 0 (by decide) (by decide)]
    refine ⟨⟨rfl, by decide, by decide⟩, ⟨B2.tb.t, by omega, by show ns + 5 + 4150 + 4150 ≤ _; omega⟩, wN B2 (by omega) (by omega) (by simp) (fun h3 v3 B3 f3 => okx (v177_664 ⟨⟨B3.tb.t, by omega, by show ns + 5 + 4150 + 4150 + 4150 ≤ _; omega⟩, wC B3 35 rfl (by decide) (ts := [32, 119, 104, 101, 110, 32]) rfl (by omega) (by simp) (fun h4 v4 B4 f4 => okx (v177_669 ?_))⟩))⟩
    have G2' := Gw.fv f2
    have F4 := f3.tr f4
    have G4' := G2'.fv F4
    have a4 := a2.fv G2'.g0.q F4
    obtain ⟨m1, m2, m3, m4, m5, m6⟩ := a4.m (i : Int) (by omega) (by omega)
    rw [ei] at m1 m2 m3 m4 m5 m6
    have kn4 := B4.kx.n
    refine ⟨⟨by omega, by show ns + 5 + 4150 + 4150 + 4150 + 70000 ≤ _; omega⟩, s176 B4.kx (by omega) m4 m5 m6 m1.1.2 G4'.g0.t G4'.g2.p G4'.g3.p G4'.g0.q.1.2 G4'.g2.t G4'.g2.l G4'.g2.q.1.1.2 G4'.g3.t G4'.g3.l G4'.g3.q.1.2 ⟨by omega, by omega, by omega, by omega⟩ ⟨r1, r2, r3, r4⟩ (fun h5 s w ts5 kx5 ko5 hs5 hw5 => okx (v177_675 ?_))⟩
    have Ba5 := B4.ko ko5 kx5
    have Ga5 := G4'.ko ko5
    have ga5 := a4.ko G4'.g0.q ko5
    have ba4 := B4.tb.a1
    have bv4 := B4.tb.v1
    have tl := (tsB_len (pp := lpF (ceF L xs)) (b := bbF (ceF L xs) (i : Int))).1
    refine ⟨⟨Ba5.tb.t, by omega, by show ns + 5 + 4150 + 4150 + 4150 + 70000 + 4150 ≤ _; omega⟩, wS Ba5 ts5 (by omega) (by omega) (by omega) (by omega) (by omega) (by simp; omega) (fun h6 v6 B6 f6 => okx (v177_678 ⟨⟨B6.tb.t, by omega, by show ns + 5 + 4150 + 4150 + 4150 + 70000 + 4150 + 4150 ≤ _; omega⟩, wC B6 24 rfl (by decide) (ts := [59]) rfl (by omega) (by simp; omega) (fun h7 v7 B7 f7 => okx (v177_683 ?_))⟩))⟩
    have eb : lbs (X ++ grp (gB (lpF (ceF L xs)) (bbF (ceF L xs))) i) ++ [98, 97, 110, 32, 112] ++ dg (bbF (ceF L xs) (i : Int) 0) ++ [32, 119, 104, 101, 110, 32] ++ tsB (lpF (ceF L xs)) (bbF (ceF L xs) (i : Int)) ++ [59] = lbs (X ++ grp (gB (lpF (ceF L xs)) (bbF (ceF L xs))) (i + 1)) := by
      show _ = lbs (X ++ (grp (gB (lpF (ceF L xs)) (bbF (ceF L xs))) i ++ [gB (lpF (ceF L xs)) (bbF (ceF L xs)) i]))
      rw [← List.append_assoc, lbs_app (b := [gB (lpF (ceF L xs)) (bbF (ceF L xs)) i]), lbs_1]
      show _ = _ ++ ([98, 97, 110, 32, 112] ++ dg (bbF (ceF L xs) (i : Int) 0) ++ [32, 119, 104, 101, 110, 32] ++ tsB (lpF (ceF L xs)) (bbF (ceF L xs) (i : Int)) ++ [59])
      simp
    rw [eb] at B7
    rw [show w32 ((i : Int) + 1) = ((i + 1 : Nat) : Int) by rw [w32_id (by omega) (by omega)]; omega]
    have F7 := f6.tr f7
    refine ih (i + 1) (by omega) (by omega) h7 _ v7 _ _ _ _ _ _ _ (B7.re B7.kx.n.2 ?_) (Ga5.fv F7) (ga5.fv Ga5.g0.q F7) (by omega) (by show ns + 5 + 4150 + 4150 + 4150 + 70000 + 4150 + 4150 ≤ _; omega) (by omega) k
    rw [lbs_app, List.length_append]
    have := grp_len3 (lp := lpF (ceF L xs)) (bb := bbF (ceF L xs)) (n := i + 1) (by omega)
    omega
theorem l538 {X : List LnT} (hX : (lbs X).length ≤ 845) {C P V W : Int} {A : Int → Int} {h : AH} {v N : Int} {nc ns : Nat} {y3 y4 y5 y6 y7 : AV} (B : BX (am_h0 L xs) h a v N 845 (lbs X)) (G : GV h o a v (lpF (ceF L xs)) C P A V W (LK (ceF L xs) (nvF (ceF L xs)) 0)) (hc : nc ≤ 231) (hs : ns ≤ 4150 * nc) (hN : N ≤ -99999500 + (nc : Int))
    (k : ∀ (D : Int) (h : AH) (B8 : Int → Int) (v N : Int), W + lpF (ceF L xs) 2 0 < D → BX (am_h0 L xs) h a v N 1245 (lbs (X ++ grp (gB (lpF (ceF L xs)) (bbF (ceF L xs))) (nbF (ceF L xs)).toNat)) → GV h o a v (lpF (ceF L xs)) C P A V W (LK (ceF L xs) (nvF (ceF L xs)) 0) → G5 h o a v (lpF (ceF L xs)) (bbF (ceF L xs)) D B8 (nbF (ceF L xs)) → N ≤ -99998500 → K 0 o h) :
    WP (d + 7) 177 (538, [(4, z), (2, a), (2, o), y3, y4, y5, y6, y7], [(0, ceF L xs 13), (2, o)], h, nc, ns) K := by
  have rb := bl_rg (x := ceF L xs 13) (n := 6) (by decide)
  have eb : nbF (ceF L xs) = bl (ceF L xs 13) 6 := rfl
  have rv := bl_rg (x := ceF L xs 8) (n := 7) (by decide)
  have evn : nvF (ceF L xs) = 1 + bl (ceF L xs 8) 7 := rfl
  have ev : lpF (ceF L xs) 2 0 = nvF (ceF L xs) := rfl
  have kn := B.kx.n
  have ba := B.tb.a1
  have bv := B.tb.v1
  have qo := G.g0.q
  have qo' := qo.1
  have r := G.r.1
  have hD : W + lpF (ceF L xs) 2 0 < am_n h := by
    have := (G.g4.m (nvF (ceF L xs) - 1) (by omega) (by omega)).1.1.2
    omega
  refine v177_538 (t173 (by decide) (okx (v177_543 ?_)))
  rw [← eb]
  have ko : KpO (am_n h) h (am_a h 24 (nbF (ceF L xs)) (fun _ => -1)) := KpO.al
  have Ga := G.ko ko
  have Ba := B.ko ko (B.kx.ko ko (N2 := N + 1) (by show am_n h + 1 ≤ _; omega))
  have Tt : am_t (am_a h 24 (nbF (ceF L xs)) (fun _ => -1)) (am_n h) = 24 := if_pos rfl
  have Tl : am_l (am_a h 24 (nbF (ceF L xs)) (fun _ => -1)) (am_n h) = nbF (ceF L xs) := if_pos rfl
  have Tn : am_n (am_a h 24 (nbF (ceF L xs)) (fun _ => -1)) = am_n h + 1 := rfl
  generalize am_a h 24 (nbF (ceF L xs)) (fun _ => -1) = h1 at Ga Ba Tt Tl Tn ⊢
  refine ⟨⟨⟨⟨by omega, by omega⟩, Or.inl (by omega)⟩, by omega, by omega⟩, Ga.g0.t, v177_549 ?_⟩
  have Gw := Ga.wo (x := am_n h) (by omega)
  have Bw := Ba.w (z := o) (i := 8) (y := am_n h) ⟨by omega, qo.2.1, qo.2.2⟩
  have g5 : G5 (am_w h1 o 8 (am_n h)) o a v (lpF (ceF L xs)) (bbF (ceF L xs)) (am_n h) (fun _ => 0) ((0 : Nat) : Int) := ⟨⟨⟨by omega, by show am_n h < am_n h1; omega⟩, by omega, by omega⟩, by rw [am_m_w, if_pos ⟨rfl, rfl⟩], Tt, Tl, fun i i0 i1 => absurd i1 (by omega)⟩
  refine l551 X hX hD (C := C) (P := P) (V := V) (A := A) (nbF (ceF L xs)).toNat 0 (by omega) (by omega) _ _ v (N + 1) (nc + 1) (ns + (nbF (ceF L xs)).toNat) _ _ _ _ ?_ Gw g5 (by omega) (by omega) (by omega) (fun h B8 v N => k (am_n _) h B8 v N hD)
  show BX _ _ _ _ _ _ (lbs (X ++ []))
  rw [List.append_nil]
  exact Bw.re Bw.kx.n.2 (by omega)
end
