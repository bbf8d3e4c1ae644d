/-! ===== the law's list: projects ===== -/
theorem grp_len1 {lp : TT} {n : Nat} (hn : n ≤ 7) : (lbs (grp (gP lp) n)).length ≤ 308 := by
  have := (grp_bd (g := gP lp) (x := 9) (y := 44) (N := n) (fun k hk => by
    have d1 := dg_l4 (x := (k : Int))
    have d2 := dg_l4 (x := lp 9 (k : Int))
    have d3 := dg_l4 (x := lp 5 (k : Int))
    have d4 := dg_l4 (x := lp 6 (k : Int))
    refine ⟨Nat.le_refl _, ?_⟩
    show ([112, 114, 111, 106, 101, 99, 116, 32, 112] ++ dg (k : Int) ++ [32, 99, 111, 115, 116, 32] ++ dg (lp 9 (k : Int)) ++ [32, 105, 110, 32, 119] ++ dg (lp 5 (k : Int)) ++ [32, 103, 114, 111, 119, 115, 32] ++ dg (lp 6 (k : Int)) ++ [59]).length ≤ 44
    simp only [List.length_append, List.length_cons, List.length_nil]
    omega)).2
  omega
theorem OA.ko {h g : AH} {n : Int} {G : Int → Int} (o : OA h g (am_n h) n G) : KpO (am_n h) h g := o.f.ko (Int.le_refl _) (Int.le_refl _) (Int.le_refl _)
section
variable {d : Nat} {L : Nat} {xs : Nat → Int32} {o a z : Int} {K : AK}
theorem l179 (X : List LnT) (hX : (lbs X).length ≤ 75) (C P : Int) : ∀ (j i : Nat), (i : Int) + (j : Int) = npF (ceF L xs) → i + j ≤ 7 → ∀ (h : AH) (A : Int → Int) (v N : Int) (nc ns : Nat) (y4 y5 y6 y7 : AV), BX (am_h0 L xs) h a v N 383 (lbs (X ++ grp (gP (lpF (ceF L xs))) i)) → GO h o a v (lpF (ceF L xs) 8 0) → G1 h o a v (lpF (ceF L xs)) C (nwF (ceF L xs)) → G2 h o a v (lpF (ceF L xs)) C P A (i : Int) → nc ≤ 26 + 10 * i → ns ≤ 4150 * nc → N ≤ -99999500 + (nc : Int) →
    (∀ (h : AH) (A : Int → Int) (v N : Int) (nc ns : Nat) (y3 y4 y5 y6 y7 : AV), BX (am_h0 L xs) h a v N 383 (lbs (X ++ grp (gP (lpF (ceF L xs))) (npF (ceF L xs)).toNat)) → GO h o a v (lpF (ceF L xs) 8 0) → G1 h o a v (lpF (ceF L xs)) C (nwF (ceF L xs)) → G2 h o a v (lpF (ceF L xs)) C P A (npF (ceF L xs)) → nc ≤ 96 → ns ≤ 4150 * nc → N ≤ -99999500 + (nc : Int) → WP (d + 7) 177 (355, [(4, z), (2, a), (2, o), y3, y4, y5, y6, y7], [(0, ceF L xs 8), (0, 1), (2, o)], h, nc, ns) K) →
    WP (d + 7) 177 (179, [(4, z), (2, a), (2, o), (0, (i : Int)), y4, y5, y6, y7], [], h, nc, ns) K := by
  intro j
  have en : lpF (ceF L xs) 1 0 = npF (ceF L xs) := rfl
  have ew : lpF (ceF L xs) 0 0 = nwF (ceF L xs) := rfl
  have rw0 := bl_rg (x := ceF L xs 0) (n := 3) (by decide)
  have nw0 : nwF (ceF L xs) = 1 + bl (ceF L xs 0) 3 := rfl
  induction j with
  | zero =>
    intro i hij hn h A v N nc ns y4 y5 y6 y7 B G g1 g2 hc hs hN k
    refine v177_179 ?_
    rw [G.t, g2.p, g2.t, g2.l, en]
    refine ⟨rfl, by decide, fun u => absurd u (by omega), fun _ => t174 B.kx (by decide) (okx ?_)⟩
    have e : i = (npF (ceF L xs)).toNat := by omega
    subst e
    have g2' : G2 h o a v (lpF (ceF L xs)) C P A (npF (ceF L xs)) := by
      rw [show npF (ceF L xs) = (((npF (ceF L xs)).toNat : Nat) : Int) by omega]
      exact g2
    exact k h A v N nc ns _ _ _ _ _ B G g1 g2' (by omega) hs hN
  | succ j ih =>
    intro i hij hn h A v N nc ns y4 y5 y6 y7 B G g1 g2 hc hs hN k
    have tm : (i : Int).tmod 3 = (i : Int) % 3 := Int.tmod_eq_emod_of_nonneg (by omega)
    have kn := B.kx.n
    have q := g2.q
    have qP := q.1.1
    have qo := G.q
    have ba := B.tb.a1
    have bv := B.tb.v1
    have q1c := g1.q
    refine v177_179 ?_
    rw [G.t, g2.p, g2.t, g2.l, en, tm, show w32 (5 + (i : Int) % 3) = 5 + (i : Int) % 3 from w32_id (by omega) (by omega)]
    refine ⟨rfl, by decide, fun _ => ⟨by decide, t174 B.kx (by omega) (okx (v177_197 ?_))⟩, fun u => absurd (show (i : Int) < npF (ceF L xs) by omega) u⟩
    rw [G.t, g2.p, show w32 (3 * (i : Int)) = 3 * (i : Int) from w32_id (by omega) (by omega)]
    have ex : am_shr (ceF L xs (5 + (i : Int) % 3)) (3 * (i : Int)) = xpF (ceF L xs) (i : Int) := rfl
    rw [ex]
    have O0 := OA.mk0 (h := h) (n := 5)
    refine ⟨rfl, ⟨⟨by decide, Or.inl (by omega)⟩, by omega, by show ns + 5 ≤ _; omega⟩, t173 (by decide) (okx (v177_225 ?_))⟩
    have key : ∀ r : Int, r = bl (xpF (ceF L xs) (i : Int)) (if bl (am_shr (xpF (ceF L xs) (i : Int)) 6) 4 = 0 then 999 else 120) → 0 ≤ r ∧ r < 999 → WP (d + 7) 177 (239, [(4, z), (2, a), (2, o), (0, (i : Int)), (0, xpF (ceF L xs) (i : Int)), y5, y6, y7], [(0, r), (0, 1), (0, 0), (2, am_n h), (2, am_n h), (0, (i : Int)), (2, P)], am_a h 20 5 (fun _ => 0), nc + 1, ns + (5 : Int).toNat) K := by
      intro r er hr
      have e9 : lpF (ceF L xs) 9 (i : Int) = 1 + r := by rw [er]; rfl
      refine v177_239 ⟨O0.ix (by decide) (by decide), ?_⟩
      rw [w32_id (x := 1 + r) (by omega) (by omega)]
      have O1 := O0.w (i := 0) (x := 1 + r)
      generalize am_w (am_a h 20 5 (fun _ => 0)) (am_n h) 0 (1 + r) = k1 at O1 ⊢
      have Ga := G.ko O1.ko
      have ga := g1.ko G.q O1.ko
      refine v177_241 ?_
      rw [Ga.t, ga.p, ga.t, ga.l, ew]
      refine ⟨rfl, by decide, t173 (by omega) (okx (v177_255 ⟨O1.ix (by decide) (by decide), ?_⟩))⟩
      have O2 := O1.w (i := 1) (x := bl (am_shr (xpF (ceF L xs) (i : Int)) 3) (nwF (ceF L xs)))
      generalize am_w k1 (am_n h) 1 (bl (am_shr (xpF (ceF L xs) (i : Int)) 3) (nwF (ceF L xs))) = k2 at O2 ⊢
      refine v177_256 (t173 (by decide) (okx (v177_267 ⟨O2.ix (by decide) (by decide), ?_⟩)))
      have O3 := O2.w (i := 2) (x := bl (am_shr (xpF (ceF L xs) (i : Int)) 5) 51)
      generalize am_w k2 (am_n h) 2 (bl (am_shr (xpF (ceF L xs) (i : Int)) 5) 51) = k3 at O3 ⊢
      refine v177_268 ⟨O3.ix (by decide) (by decide), ?_⟩
      have O4 := O3.w (i := 3) (x := -1)
      generalize am_w k3 (am_n h) 3 (-1) = k4 at O4 ⊢
      refine v177_272 ⟨O4.ix (by decide) (by decide), ?_⟩
      have O5 := O4.w (i := 4) (x := 0)
      generalize am_w k4 (am_n h) 4 0 = k5 at O5 ⊢
      have hk5 : am_n k5 = am_n h + 1 := O5.e
      have V0 : am_m k5 (am_n h) 0 = lpF (ceF L xs) 9 (i : Int) := (O5.m 0).trans e9.symm
      have V1 : am_m k5 (am_n h) 1 = lpF (ceF L xs) 5 (i : Int) := (O5.m 1).trans rfl
      have V2 : am_m k5 (am_n h) 2 = lpF (ceF L xs) 6 (i : Int) := (O5.m 2).trans rfl
      have V3 : am_m k5 (am_n h) 3 = -1 := (O5.m 3).trans rfl
      have V4 : am_m k5 (am_n h) 4 = 0 := (O5.m 4).trans rfl
      have ko := O5.ko
      have T5 := O5.t
      have L5 := O5.l
      clear O0 O1 O2 O3 O4 O5 Ga ga
      have B5 := B.ko ko (B.kx.ko ko (N2 := N + 1) (by omega))
      have G5' := G.ko ko
      have g15 := g1.ko G.q ko
      have g25 := g2.ko G.q ko
      refine v177_276 ?_
      rw [g25.t, g25.l, en]
      have Bw := B5.w (z := P) (i := (i : Int)) (y := am_n h) ⟨by have := q.1.1; omega, q.1.2.1, q.1.2.2⟩
      have Gw := G5'.w (z := P) (i := (i : Int)) (x := am_n h) (by omega)
      have g1w := g15.w (z := P) (i := (i : Int)) (x := am_n h) (Or.inl (by omega)) (by omega)
      have g2w : G2 (am_w k5 P (i : Int) (am_n h)) o a v (lpF (ceF L xs)) C P (vt9 A (i : Int) (am_n h)) ((i + 1 : Nat) : Int) := by
        refine ⟨g25.q, by rw [am_m_w, if_neg (by omega)]; exact g25.p, g25.t, g25.l, fun n n0 n1 => ?_, fun n m n0 nm m1 => ?_⟩
        · by_cases e : n = (i : Int)
          · have ev : vt9 A (i : Int) (am_n h) n = am_n h := if_pos e
            have W : ∀ j, am_m (am_w k5 P (i : Int) (am_n h)) (am_n h) j = am_m k5 (am_n h) j := fun j => by rw [am_m_w, if_neg (by omega)]
            rw [ev]
            refine ⟨⟨⟨by omega, by show am_n h < am_n k5; omega⟩, by omega, by omega⟩, by omega, by rw [am_m_w, if_pos ⟨rfl, e⟩], T5, L5, ?_, ?_, ?_, ?_, ?_⟩
            · rw [W, e]; exact V0
            · rw [W, e]; exact V1
            · rw [W, e]; exact V2
            · rw [W]; exact V3
            · rw [W]; exact V4
          · have ev : vt9 A (i : Int) (am_n h) n = A n := if_neg e
            obtain ⟨m1, m2, m3, m4, m5, m6, m7, m8, m9, m10⟩ := g25.m n n0 (by omega)
            have W : ∀ j, am_m (am_w k5 P (i : Int) (am_n h)) (A n) j = am_m k5 (A n) j := fun j => by rw [am_m_w, if_neg (by omega)]
            rw [ev]
            exact ⟨m1, m2, by rw [am_m_w, if_neg (fun u => e u.2)]; exact m3, m4, m5, (W _).trans m6, (W _).trans m7, (W _).trans m8, (W _).trans m9, (W _).trans m10⟩
        · have ev : vt9 A (i : Int) (am_n h) n = A n := if_neg (by omega)
          rw [ev]
          by_cases e : m = (i : Int)
          · have ev2 : vt9 A (i : Int) (am_n h) m = am_n h := if_pos e
            rw [ev2]
            have := (g2.m n n0 (by omega)).1.1
            omega
          · have ev2 : vt9 A (i : Int) (am_n h) m = A m := if_neg e
            rw [ev2]
            exact g2.i n m n0 nm (by omega)
      refine ⟨⟨Or.inl ⟨rfl, T5⟩, by omega, by omega⟩, ⟨Bw.tb.t, by omega, by show ns + 5 + 4150 ≤ _; omega⟩, ?_⟩
      generalize am_w k5 P (i : Int) (am_n h) = k6 at Bw Gw g1w g2w ⊢
      clear B5 G5' g15 g25 T5 L5 V0 V1 V2 V3 V4
      refine wC Bw 27 rfl (by decide) (ts := [112, 114, 111, 106, 101, 99, 116, 32, 112]) rfl (by omega) (by simp) (fun h2 v2 B2 f2 => okx (v177_283 ⟨⟨B2.tb.t, by omega, by show ns + 5 + 4150 + 4150 ≤ _; omega⟩, wN B2 (by omega) (by omega) (by simp) (fun h3 v3 B3 f3 => okx (v177_287 ⟨⟨B3.tb.t, by omega, by show ns + 5 + 4150 + 4150 + 4150 ≤ _; omega⟩, wC B3 28 rfl (by decide) (ts := [32, 99, 111, 115, 116, 32]) rfl (by omega) (by simp) (fun h4 v4 B4 f4 => okx (v177_292 ?_))⟩))⟩))
      have F4 := (f2.tr f3).tr f4
      have H4 := Gw.fv F4
      have a4 := g2w.fv Gw.q F4
      obtain ⟨m1, m2, m3, m4, m5, m6, m7, m8, -⟩ := a4.m (i : Int) (by omega) (by omega)
      have r5 := bl_rg (x := am_shr (xpF (ceF L xs) (i : Int)) 3) (n := nwF (ceF L xs)) (by omega)
      have r6 := bl_rg (x := am_shr (xpF (ceF L xs) (i : Int)) 5) (n := 51) (by decide)
      have e5 : lpF (ceF L xs) 5 (i : Int) = bl (am_shr (xpF (ceF L xs) (i : Int)) 3) (nwF (ceF L xs)) := rfl
      have e6 : lpF (ceF L xs) 6 (i : Int) = bl (am_shr (xpF (ceF L xs) (i : Int)) 5) 51 := rfl
      rw [H4.t, a4.p, a4.t, a4.l, en, m3, m4, m5, m6]
      refine ⟨rfl, ⟨Or.inl rfl, by omega, by omega⟩, ⟨rfl, by decide, by decide⟩, ⟨B4.tb.t, by omega, by show ns + 5 + 4150 + 4150 + 4150 + 4150 ≤ _; omega⟩, wN B4 (by omega) (by omega) (by simp) (fun h5 v5 B5 f5 => okx (v177_303 ⟨⟨B5.tb.t, by omega, by show ns + 5 + 4150 + 4150 + 4150 + 4150 + 4150 ≤ _; omega⟩, wC B5 29 rfl (by decide) (ts := [32, 105, 110, 32, 119]) rfl (by omega) (by simp) (fun h6 v6 B6 f6 => okx (v177_308 ?_))⟩))⟩
      have F6 := f5.tr f6
      have H6 := H4.fv F6
      have a6 := a4.fv H4.q F6
      obtain ⟨m1, m2, m3, m4, m5, m6, m7, m8, -⟩ := a6.m (i : Int) (by omega) (by omega)
      rw [H6.t, a6.p, a6.t, a6.l, en, m3, m4, m5, m7]
      refine ⟨rfl, ⟨Or.inl rfl, by omega, by omega⟩, ⟨rfl, by decide, by decide⟩, ⟨B6.tb.t, by omega, by show ns + 5 + 4150 + 4150 + 4150 + 4150 + 4150 + 4150 ≤ _; omega⟩, wN B6 (by omega) (by omega) (by simp) (fun h7 v7 B7 f7 => okx (v177_319 ⟨⟨B7.tb.t, by omega, by show ns + 5 + 4150 + 4150 + 4150 + 4150 + 4150 + 4150 + 4150 ≤ _; omega⟩, wC B7 30 rfl (by decide) (ts := [32, 103, 114, 111, 119, 115, 32]) rfl (by omega) (by simp) (fun h8 v8 B8 f8 => okx (v177_324 ?_))⟩))⟩
      have F8 := f7.tr f8
      have H8 := H6.fv F8
      have a8 := a6.fv H6.q F8
      obtain ⟨m1, m2, m3, m4, m5, m6, m7, m8, -⟩ := a8.m (i : Int) (by omega) (by omega)
      rw [H8.t, a8.p, a8.t, a8.l, en, m3, m4, m5, m8]
      refine ⟨rfl, ⟨Or.inl rfl, by omega, by omega⟩, ⟨rfl, by decide, by decide⟩, ⟨B8.tb.t, by omega, by show ns + 5 + 4150 + 4150 + 4150 + 4150 + 4150 + 4150 + 4150 + 4150 ≤ _; omega⟩, wN B8 (by omega) (by omega) (by simp) (fun h9 v9 B9 f9 => okx (v177_335 ⟨⟨B9.tb.t, by omega, by show ns + 5 + 4150 + 4150 + 4150 + 4150 + 4150 + 4150 + 4150 + 4150 + 4150 ≤ _; omega⟩, wC B9 24 rfl (by decide) (ts := [59]) rfl (by omega) (by simp) (fun hx vx BX' fx => okx (v177_340 ?_))⟩))⟩
      have Fx := f9.tr fx
      have Ft := ((F4.tr F6).tr F8).tr Fx
      have eb : lbs (X ++ grp (gP (lpF (ceF L xs))) i) ++ [112, 114, 111, 106, 101, 99, 116, 32, 112] ++ dg (i : Int) ++ [32, 99, 111, 115, 116, 32] ++ dg (lpF (ceF L xs) 9 (i : Int)) ++ [32, 105, 110, 32, 119] ++ dg (lpF (ceF L xs) 5 (i : Int)) ++ [32, 103, 114, 111, 119, 115, 32] ++ dg (lpF (ceF L xs) 6 (i : Int)) ++ [59] = lbs (X ++ grp (gP (lpF (ceF L xs))) (i + 1)) := by
        show _ = lbs (X ++ (grp (gP (lpF (ceF L xs))) i ++ [gP (lpF (ceF L xs)) i]))
        rw [← List.append_assoc, lbs_app (b := [gP (lpF (ceF L xs)) i]), lbs_1]
        show _ = _ ++ ([112, 114, 111, 106, 101, 99, 116, 32, 112] ++ dg (i : Int) ++ [32, 99, 111, 115, 116, 32] ++ dg (lpF (ceF L xs) 9 (i : Int)) ++ [32, 105, 110, 32, 119] ++ dg (lpF (ceF L xs) 5 (i : Int)) ++ [32, 103, 114, 111, 119, 115, 32] ++ dg (lpF (ceF L xs) 6 (i : Int)) ++ [59])
        simp
      rw [eb] at BX'
      rw [show w32 ((i : Int) + 1) = ((i + 1 : Nat) : Int) by rw [w32_id (by omega) (by omega)]; omega]
      refine ih (i + 1) (by omega) (by omega) hx _ vx _ _ _ _ _ _ _ (BX'.re BX'.kx.n.2 ?_) (H8.fv Fx) (g1w.fv Gw.q Ft) (a8.fv H8.q Fx) (by omega) (by show ns + 5 + 4150 + 4150 + 4150 + 4150 + 4150 + 4150 + 4150 + 4150 + 4150 ≤ _; omega) (by omega) k
      rw [lbs_app, List.length_append]
      have := grp_len1 (lp := lpF (ceF L xs)) (n := i + 1) (by omega)
      omega
    refine ⟨fun y => t173 (by decide) (okx (key _ (by rw [if_pos y]) (bl_rg (by decide)))), fun y => t173 (by decide) (okx (key _ (by rw [if_neg y]) ?_))⟩
    have := bl_rg (x := xpF (ceF L xs) (i : Int)) (n := 120) (by decide)
    omega
theorem l165 {X : List LnT} (hX : (lbs X).length ≤ 75) {C : Int} {h : AH} {v N : Int} {nc ns : Nat} {y3 y4 y5 y6 y7 : AV} (B : BX (am_h0 L xs) h a v N 75 (lbs X)) (G : GO h o a v (lpF (ceF L xs) 8 0)) (g1 : G1 h o a v (lpF (ceF L xs)) C (nwF (ceF L xs))) (hc : nc ≤ 25) (hs : ns ≤ 4150 * nc) (hN : N ≤ -99999500 + (nc : Int))
    (k : ∀ (P : Int) (h : AH) (A : Int → Int) (v N : Int) (nc ns : Nat) (y3 y4 y5 y6 y7 : AV), BX (am_h0 L xs) h a v N 383 (lbs (X ++ grp (gP (lpF (ceF L xs))) (npF (ceF L xs)).toNat)) → GO h o a v (lpF (ceF L xs) 8 0) → G1 h o a v (lpF (ceF L xs)) C (nwF (ceF L xs)) → G2 h o a v (lpF (ceF L xs)) C P A (npF (ceF L xs)) → nc ≤ 96 → ns ≤ 4150 * nc → N ≤ -99999500 + (nc : Int) → WP (d + 7) 177 (355, [(4, z), (2, a), (2, o), y3, y4, y5, y6, y7], [(0, ceF L xs 8), (0, 1), (2, o)], h, nc, ns) K) :
    WP (d + 7) 177 (165, [(4, z), (2, a), (2, o), y3, y4, y5, y6, y7], [(0, ceF L xs 5), (0, 1), (2, o)], h, nc, ns) K := by
  have rn := bl_rg (x := ceF L xs 5) (n := 7) (by decide)
  have en : npF (ceF L xs) = 1 + bl (ceF L xs 5) 7 := rfl
  have kn := B.kx.n
  have ba := B.tb.a1
  have bv := B.tb.v1
  have qo := G.q
  have qc := g1.q
  refine v177_165 (t173 (by decide) (okx (v177_170 ?_)))
  rw [w32_id (x := 1 + bl (ceF L xs 5) 7) (by omega) (by omega), ← en]
  have ko : KpO (am_n h) h (am_a h 24 (npF (ceF L xs)) (fun _ => -1)) := KpO.al
  have Ga := G.ko ko
  have ga := g1.ko G.q ko
  have Ba := B.ko ko (B.kx.ko ko (N2 := N + 1) (by show am_n h + 1 ≤ _; omega))
  have Tt : am_t (am_a h 24 (npF (ceF L xs)) (fun _ => -1)) (am_n h) = 24 := if_pos rfl
  have Tl : am_l (am_a h 24 (npF (ceF L xs)) (fun _ => -1)) (am_n h) = npF (ceF L xs) := if_pos rfl
  have Tn : am_n (am_a h 24 (npF (ceF L xs)) (fun _ => -1)) = am_n h + 1 := rfl
  generalize am_a h 24 (npF (ceF L xs)) (fun _ => -1) = h1 at Ga ga Ba Tt Tl Tn ⊢
  refine ⟨⟨⟨⟨by omega, by omega⟩, Or.inl (by omega)⟩, by omega, by omega⟩, Ga.t, v177_177 ?_⟩
  have Gw := Ga.wo (i := 5) (x := am_n h) (by decide)
  have gw := ga.w (z := o) (i := 5) (x := am_n h) (Or.inr (by decide)) (by omega)
  have Bw := Ba.w (z := o) (i := 5) (y := am_n h) ⟨by have := qo.1; omega, qo.2.1, qo.2.2⟩
  have g2 : G2 (am_w h1 o 5 (am_n h)) o a v (lpF (ceF L xs)) C (am_n h) (fun _ => 0) ((0 : Nat) : Int) := ⟨⟨⟨⟨by omega, by show am_n h < am_n h1; omega⟩, by omega, by omega⟩, by have := qc.1.1; omega⟩, by rw [am_m_w, if_pos ⟨rfl, rfl⟩], Tt, Tl, fun i i0 i1 => absurd i1 (by omega), fun i j i0 ij j1 => absurd j1 (by omega)⟩
  refine l179 X hX C (am_n h) (npF (ceF L xs)).toNat 0 (by omega) (by omega) _ _ v (N + 1) (nc + 1) (ns + (npF (ceF L xs) : Int).toNat) _ _ _ _ ?_ Gw gw g2 (by omega) (by omega) (by omega) (k (am_n h))
  show BX _ _ _ _ _ _ (lbs (X ++ []))
  rw [List.append_nil]
  exact Bw.re Bw.kx.n.2 (by omega)
end
