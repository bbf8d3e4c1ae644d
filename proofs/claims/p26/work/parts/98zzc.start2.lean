/-! ===== from the law's begin to its years ===== -/
theorem ngs_c {x : AV} {l : List AV} (hx : x.1 = 2 → x.2 < 0) (h : am_ngs l) : am_ngs (x :: l) := fun v hv => by
  rcases List.mem_cons.1 hv with e | e
  · rw [e]; exact hx
  · exact h v e
theorem ngs_n : am_ngs [] := fun v hv => by cases hv
theorem ngs_r {n : Nat} : am_ngs (List.replicate n (9, 0)) := fun v hv h => by
  rw [(List.mem_replicate.1 hv).2] at h
  cases h
theorem KX.z {L : Nat} {xs : Nat → Int32} : KX (am_h0 L xs) (am_h0 L xs) (-100000000) := ⟨fun _ _ => ⟨rfl, rfl, fun _ => rfl⟩, rfl, fun _ => rfl, Int.le_refl _, Int.le_refl _⟩
/-- the second phase up to its first year -/
theorem law14 {c : Int → Int} {h : AH} {o a v C P V W D l0 : Int} {A B8 : Int → Int} (x : LG h o a v c C P V W D A B8) {nc ns : Nat} (hc : nc ≤ 1700) (hs : ns ≤ 3010000) {y3 y4 y5 y6 y7 y8 y9 y10 y11 y12 y13 y14 y15 y16 y17 y18 y19 y20 y21 y22 y23 y24 y25 y26 y27 y28 y29 y30 y31 y32 y33 y34 y35 y36 y37 : AV} {K : AK}
    (k : ∀ h2 A2 f bb tt tp q dq, BO h2 o A2 f (s_bg f 0) bb tt tp (-1) q dq → HQ f bb tt → WP 2000 179 (59, [(4, l0), (2, a), (2, o), (2, 0), (0, f 0 0), (0, f 1 0), (0, f 2 0), (0, 0), y8, y9, y10, y11, y12, y13, y14, y15, y16, y17, y18, y19, y20, y21, y22, y23, y24, y25, y26, y27, y28, y29, y30, y31, y32, y33, y34, y35, y36, y37], [], h2, nc + 1 + 52 + 2 + 700 + 1 + 1 + 1, ns + 10 + 7239 + 4104 + 4000 + 6 + 6 + 6) K) :
    WP 2000 179 (14, [(4, l0), (2, a), (2, o), y3, y4, y5, y6, y7, y8, y9, y10, y11, y12, y13, y14, y15, y16, y17, y18, y19, y20, y21, y22, y23, y24, y25, y26, y27, y28, y29, y30, y31, y32, y33, y34, y35, y36, y37], [], am_rb (kpF o a v (lpF c) C P V W D A B8) h, nc, ns) K := by
  obtain ⟨sm, ao, tb⟩ := x.rb
  have n0 : am_n (am_rb (kpF o a v (lpF c) C P V W D A B8) h) = 0 := rfl
  have y := lpF_LA (c := c)
  generalize am_rb (kpF o a v (lpF c) C P V W D A B8) h = h1 at sm ao tb n0 ⊢
  have ta := tb.a1
  have tv := tb.v1
  refine v179_14 (d := 1999) ?_
  rw [n0]
  refine ⟨⟨Or.inr (by omega), by omega, by omega⟩, ⟨by decide, by omega, by omega⟩, n101 (d := 1989) n0 (fun h2 f2 g2 x2 n2 => okx ⟨by decide, ?_⟩)⟩
  have tb2 : TB h2 a v (lbs (LL c)) := by
    obtain ⟨f1, f3, f4, f5, f6⟩ := f2
    have e1 : ∀ i, am_m h2 a i = am_m h1 a i := fun i => f6 a ta (by omega) i
    have e2 : ∀ i, am_m h2 v i = am_m h1 v i := fun i => f6 v tv (by omega) i
    exact ⟨(f5 a ta).1.trans tb.t, (e1 _).trans tb.v0, (e1 _).trans tb.c, (e1 _).trans tb.n, (f5 v tv).1.trans tb.vt, by rw [(f5 v tv).2]; exact tb.l1, by rw [(f5 v tv).2]; exact tb.l2, by omega, by omega, tb.na, tb.nv, tb.av, fun i hi => (e2 _).trans (tb.b i hi)⟩
  refine ⟨⟨tb2.t, by omega, by omega⟩, d133 (d := 1994) tb2 (Or.inr (by omega)) (fun h e => Or.inr (by omega)) (by omega) (by omega) (fun h3 ts3 _ f3 _ n3 => okx ⟨⟨by omega, by omega⟩, ?_⟩)⟩
  have g3 := g2.fp f3 (Int.le_refl _) (Int.le_refl _)
  have x3 : TX h3 12 := x2.fr (lo := 53) (n := 0) ⟨f3.1, f3.2.1, f3.2.2.1, f3.2.2.2.1, fun b hb _ i => f3.2.2.2.2 b hb (by omega) (by omega) i⟩ (Or.inl (by decide))
  rw [n2] at ts3 ⊢
  refine s175 (d := 1993) (c := c) rfl (by decide) g3 x3 ts3 (by decide) (fun h4 f tt2 tp2 f4 g4 fs e4 => okx ⟨fun _ => ?_, fun z => absurd rfl z⟩)
  have c1 := fs.c1
  have c2 := fs.c2
  have c3 := fs.c3
  have c4 := fs.c4
  obtain ⟨w1, w2, w3⟩ := y.n0
  obtain ⟨p1, p2, p3⟩ := y.n1
  obtain ⟨v1, v2, v3⟩ := y.n2
  obtain ⟨b1, b2⟩ := y.n3
  have eb : lpF c 3 0 = nbF c := rfl
  have e0 : f 0 0 = lpF c 0 0 := c1.trans w1.symm
  have e1 : f 1 0 = lpF c 1 0 := c2.trans p1.symm
  have e2 : f 2 0 = lpF c 2 0 := c3.trans v1.symm
  have e3 : f 3 0 = lpF c 3 0 := c4.trans b1.symm
  have fx : FX (fun b => 0 ≤ b) h1 h4 := (((FX.fr f2).mo (fun b z => z.1)).fp f3 (by omega) (by omega)).tr f4
  have sm4 : SM h4 o (lsA C P V W D A B8) (lpF c) (s_bg (lpF c) 0) (bbF c) := sm.kp (Q := fun b => -200000000 ≤ b ∧ b < 0) ao fx.1 (fun b hb q => ⟨(fx.2.2.2.1 b hb).1, (fx.2.2.2.1 b hb).2, fun i => fx.2.2.2.2 b hb (by omega) i⟩)
  have sm5 : SM h4 o (lsA C P V W D A B8) f (s_bg f 0) (bbF c) := sm4.cgp g4.c.I g4.c.S e0 e1 e2 e3 (fun w w0 w2 => fs.w w w0 (by omega)) (fun i i0 i1 => ⟨(fs.p i i0 (by omega)).1, (fs.p i i0 (by omega)).2.1, (fs.p i i0 (by omega)).2.2, rfl, rfl⟩) ⟨rfl, fs.b, rfl, rfl⟩ (fun i i0 i1 => ⟨rfl, rfl⟩) (fun i j i0 i1 j0 j1 => by
    have := fs.l i j i0 j0 (by omega)
    rw [if_pos (by omega)] at this
    exact this)
  have hq : HQ f (bbF c) tt2 := HQ_of (by omega) (fun i i0 i1 => (y.k i i0 (by omega)).2.2) (fun i i0 i1 => ⟨(fs.k i i0 (by omega)).trans (y.k i i0 (by omega)).1, (e4 i i0 (by omega)).trans (oB_cg e1 e2).symm⟩)
  have BB := (⟨sm5, g4, ao.cg e1 e2 e3⟩ : BO h4 o (lsA C P V W D A B8) f (s_bg f 0) (bbF c) tt2 tp2 (-1) _ _)
  refine v179_35 (d := 1999) ⟨⟨g4.t0, by omega, by omega⟩, c107 (d := 1995) g4 (fun _ => okx ⟨⟨g4.t0, by omega, by omega⟩, c107 (d := 1995) g4 (fun _ => okx ⟨⟨g4.t0, by omega, by omega⟩, c107 (d := 1995) g4 (fun _ => okx ?_) (fun z => absurd (by decide) z)⟩) (fun z => absurd (by decide) z)⟩) (fun z => absurd (by decide) z)⟩
  exact k h4 _ f _ tt2 tp2 _ _ BB hq
section
variable {h : AH} {nc ns : Nat} {x l0 : Int} {y1 y2 : AV} {r : List AV} {K : AK}
theorem ph0 (hf : am_fr h) (hc : nc + 1 ≤ 600086) (hs : ns + 4 ≤ 7301442) (k : WPS 2000 179 (3, (4, l0) :: y1 :: y2 :: r, [(2, am_n h)], am_a h 8 4 (am_df 8), nc + 1, ns + 4) K) : WPS 2000 179 (0, (4, l0) :: y1 :: y2 :: r, [], h, nc, ns) K := WPS_step ⟨⟨hf, hc, hs⟩, k⟩
theorem ph3 (k : WPS 2000 179 (4, (4, l0) :: y1 :: y2 :: r, [(2, x), (2, x)], h, nc, ns) K) : WPS 2000 179 (3, (4, l0) :: y1 :: y2 :: r, [(2, x)], h, nc, ns) K := WPS_step k
theorem ph4 (hx : ¬ x = -1) (hc : nc + 1 ≤ 600086) (hs : ns + 16 ≤ 7301442) (k : am_call 1999 131 [(2, x)] h (fun e _ h3 => am_okx e (WPS 2000 179 (7, (4, l0) :: y1 :: y2 :: r, [(2, x)], h3, nc + 1, ns + 16) K))) : WPS 2000 179 (4, (4, l0) :: y1 :: y2 :: r, [(2, x), (2, x)], h, nc, ns) K := WPS_step ⟨⟨hx, hc, hs⟩, k⟩
theorem ph7 (hx : ¬ x = -1) (k : WPS 2000 179 (10, (4, l0) :: (2, x) :: y2 :: r, [(2, x), (4, l0)], h, nc, ns) K) : WPS 2000 179 (7, (4, l0) :: y1 :: y2 :: r, [(2, x)], h, nc, ns) K := WPS_step ⟨hx, WPS_step (WPS_step k)⟩
theorem ph10 (hc : nc + 1600 ≤ 600086) (hs : ns + 3000000 ≤ 7301442) (k : am_call 1999 177 [(4, l0), (2, x)] h (fun e v h3 => am_okx e (WPS 2000 179 (13, (4, l0) :: (2, x) :: y2 :: r, [(2, v)], h3, nc + 1600, ns + 3000000) K))) : WPS 2000 179 (10, (4, l0) :: (2, x) :: y2 :: r, [(2, x), (4, l0)], h, nc, ns) K := WPS_step ⟨⟨hc, hs⟩, k⟩
theorem ph13 {v : Int} (hx : ¬ v = -1) (k : WPS 2000 179 (14, (4, l0) :: (2, x) :: (2, v) :: r, [], h, nc, ns) K) : WPS 2000 179 (13, (4, l0) :: (2, x) :: y2 :: r, [(2, v)], h, nc, ns) K := WPS_step ⟨hx, k⟩
end
theorem law_start {L : Nat} {xs : Nat → Int32}
    (k : ∀ h2 o a A2 f bb tt tp q dq y8 y9 y10 y11 y12 y13 y14 y15 y16 y17 y18 y19 y20 y21 y22 y23 y24 y25 y26 y27 y28 y29 y30 y31 y32 y33 y34 y35 y36 y37 nc ns, nc ≤ 2460 → ns ≤ 3030000 → BO h2 o A2 f (s_bg f 0) bb tt tp (-1) q dq → HQ f bb tt → WP 2000 179 (59, [(4, 0), (2, a), (2, o), (2, 0), (0, f 0 0), (0, f 1 0), (0, f 2 0), (0, 0), y8, y9, y10, y11, y12, y13, y14, y15, y16, y17, y18, y19, y20, y21, y22, y23, y24, y25, y26, y27, y28, y29, y30, y31, y32, y33, y34, y35, y36, y37], [], h2, nc, ns) am_K0) :
    WPS 2000 179 (0, am_ent 38 [(4, 0)], [], am_h0 L xs, 0, 0) am_K0 := by
  have n0 : am_n (am_h0 L xs) = -100000000 := rfl
  have e0 : am_ent 38 [(4, 0)] = (4, 0) :: (9, 0) :: (9, 0) :: List.replicate 35 (9, 0) := rfl
  rw [e0]
  refine ph0 (Or.inl (by rw [n0]; decide)) (by decide) (by decide) (ph3 (ph4 (by rw [n0]; decide) (by decide) (by decide) ?_))
  refine nB (d := 1998) KX.z (by decide) (fun h2 B2 _ => okx (ph7 (by rw [n0]; decide) (ph10 (by decide) (by decide) ?_)))
  refine s177 (d := 1992) B2 (by decide) (fun h3 o v2 C P V W D A B8 x => okx ?_)
  have ng := x.neg
  have hn := x.n
  have g0 := x.g.g0.q.1
  refine ph13 (by omega) ?_
  refine WPS_2 ⟨rfl, rfl, ?_, ?_, ngs_n, kpF o (am_n (am_h0 L xs)) v2 (lpF (ceF L xs)) C P V W D A B8, fun b hb _ => (ng b (kpF_t.1 hb)).2.2, ?_⟩
  · show am_n h3 ≤ 0
    omega
  · exact ngs_c (fun h => by cases h) (ngs_c (fun _ => by show am_n (am_h0 L xs) < 0; rw [n0]; decide) (ngs_c (fun _ => by show o < 0; omega) ngs_r))
  · exact law14 x (by decide) (by decide) (fun h4 A2 f bb tt tp q dq B hq => k h4 o _ A2 f bb tt tp q dq _ _ _ _ _ _ _ _ _ _ _ _ _ _ _ _ _ _ _ _ _ _ _ _ _ _ _ _ _ _ _ _ (by decide) (by decide) B hq)
