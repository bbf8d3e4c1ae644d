/-! ===== the law's list: voters, one after another ===== -/
section
variable {d : Nat} {L : Nat} {xs : Nat → Int32} {o a z : Int} {K : AK}
theorem l389 (X : List LnT) (hX : (lbs X).length ≤ 383) {C P V W : Int} {A : Int → Int} : ∀ (j i : Nat), (i : Int) + (j : Int) = nvF (ceF L xs) → i + j ≤ 7 → ∀ (h : AH) (v N : Int) (nc ns : Nat) (y4 y5 y6 y7 : AV), BX (am_h0 L xs) h a v N 845 (lbs (X ++ grp (gV' (LVF (ceF L xs))) i)) → GV h o a v (lpF (ceF L xs)) C P A V W (LK (ceF L xs) (i : Int) 0) → nc ≤ 112 + 17 * i → ns ≤ 4150 * nc → N ≤ -99999500 + (nc : Int) →
    (∀ (h : AH) (v N : Int) (nc ns : Nat) (y3 y4 y5 y6 y7 : AV), BX (am_h0 L xs) h a v N 845 (lbs (X ++ grp (gV' (LVF (ceF L xs))) (nvF (ceF L xs)).toNat)) → GV h o a v (lpF (ceF L xs)) C P A V W (LK (ceF L xs) (nvF (ceF L xs)) 0) → nc ≤ 231 → ns ≤ 4150 * nc → N ≤ -99999500 + (nc : Int) → WP (d + 7) 177 (538, [(4, z), (2, a), (2, o), y3, y4, y5, y6, y7], [(0, ceF L xs 13), (2, o)], h, nc, ns) K) →
    WP (d + 7) 177 (389, [(4, z), (2, a), (2, o), (0, (i : Int)), y4, y5, y6, y7], [], h, nc, ns) K := by
  intro j
  have en : lpF (ceF L xs) 1 0 = npF (ceF L xs) := rfl
  have ev : lpF (ceF L xs) 2 0 = nvF (ceF L xs) := rfl
  have rp := bl_rg (x := ceF L xs 5) (n := 7) (by decide)
  have ep : npF (ceF L xs) = 1 + bl (ceF L xs 5) 7 := rfl
  induction j with
  | zero =>
    intro i hij hn h v N nc ns y4 y5 y6 y7 B G hc hs hN k
    refine v177_389 ?_
    rw [G.g0.t, G.g3.p, G.g3.t, G.g3.l, ev]
    refine ⟨rfl, by decide, fun u => absurd u (by omega), fun _ => t174 B.kx (by decide) (okx ?_)⟩
    have e : i = (nvF (ceF L xs)).toNat := by omega
    have e2 : (i : Int) = nvF (ceF L xs) := by omega
    rw [e2] at G
    subst e
    exact k h v N nc ns _ _ _ _ _ B G (by omega) hs hN
  | succ j ih =>
    intro i hij hn h v N nc ns y4 y5 y6 y7 B G hc hs hN k
    have kn := B.kx.n
    refine v177_389 ?_
    have tm : (i : Int).tmod 4 = (i : Int) % 4 := Int.tmod_eq_emod_of_nonneg (by omega)
    rw [G.g0.t, G.g3.p, G.g3.t, G.g3.l, ev, tm, show w32 (8 + (i : Int) % 4) = 8 + (i : Int) % 4 from w32_id (by omega) (by omega)]
    refine ⟨rfl, by decide, fun _ => ⟨by decide, t174 B.kx (by omega) (okx (v177_408 ?_))⟩, fun u => absurd (show (i : Int) < nvF (ceF L xs) by omega) u⟩
    have ex : am_shr (ceF L xs (8 + (i : Int) % 4)) (w32 (w32 (2 * (i : Int)) + 1)) = xvF (ceF L xs) (i : Int) := by
      rw [show w32 (2 * (i : Int)) = 2 * (i : Int) from w32_id (by omega) (by omega), show w32 (2 * (i : Int) + 1) = 2 * (i : Int) + 1 from w32_id (by omega) (by omega)]
      rfl
    rw [ex]
    clear ex
    have lT : (lbs (X ++ grp (gV' (LVF (ceF L xs))) i) ++ [118, 111, 116, 101, 114, 32, 118] ++ dg (i : Int)).length ≤ 856 := by
      have := B.ln
      have d1 := dg_l4 (x := (i : Int))
      simp only [List.length_append, List.length_cons, List.length_nil]
      omega
    refine ⟨⟨B.tb.t, by omega, by omega⟩, wC B 31 rfl (by decide) (ts := [118, 111, 116, 101, 114, 32, 118]) rfl (by omega) (by simp) (fun h2 v2 B2 f2 => okx (v177_422 ⟨⟨B2.tb.t, by omega, by omega⟩, wN B2 (by omega) (by omega) (by simp) (fun h3 v3 B3 f3 => okx (v177_426 ?_))⟩))⟩
    refine l433 lT (u := i) (by omega) (by omega) (npF (ceF L xs)).toNat 0 (by omega) (by omega) h3 v3 (N + 1 + 1) 1 (nc + 1 + 1) (ns + 4150 + 4150) _ ?_ ((G.fv f2).fv f3) ⟨fun y => absurd y (by decide), fun y => absurd rfl y⟩ (by omega) (by omega) (by omega) ?_
    · show BX _ _ _ _ _ _ (_ ++ [])
      rw [List.append_nil]
      exact B3.re B3.kx.n.2 (by omega)
    · intro h4 v4 N4 nc4 ns4 z4 z5 z6 z7 B4 G4' hc4 hs4 hN4
      refine v177_524 ?_
      have eb : lbs (X ++ grp (gV' (LVF (ceF L xs))) i) ++ [118, 111, 116, 101, 114, 32, 118] ++ dg (i : Int) ++ lkB (LVF (ceF L xs) (i : Int)) ++ [59] = lbs (X ++ grp (gV' (LVF (ceF L xs))) (i + 1)) := by
        show _ = lbs (X ++ (grp (gV' (LVF (ceF L xs))) i ++ [gV' (LVF (ceF L xs)) i]))
        rw [← List.append_assoc, lbs_app (b := [gV' (LVF (ceF L xs)) i]), lbs_1]
        show _ = _ ++ ([118, 111, 116, 101, 114, 32, 118] ++ dg (i : Int) ++ lkB (LVF (ceF L xs) (i : Int)) ++ [59])
        simp
      rw [eb] at B4
      have ei : (i : Int) + 1 = ((i + 1 : Nat) : Int) := by omega
      rw [ei] at G4'
      rw [show w32 ((i : Int) + 1) = ((i + 1 : Nat) : Int) by rw [w32_id (by omega) (by omega)]; omega]
      refine ih (i + 1) (by omega) (by omega) h4 v4 N4 nc4 ns4 _ _ _ _ (B4.re B4.kx.n.2 ?_) G4' (by omega) hs4 hN4 k
      rw [lbs_app, List.length_append]
      have := grp_len2 (c := ceF L xs) (n := i + 1) (by omega) (by omega)
      omega
theorem l355 {X : List LnT} (hX : (lbs X).length ≤ 383) {C P : Int} {A : Int → Int} {h : AH} {v N : Int} {nc ns : Nat} {y3 y4 y5 y6 y7 : AV} (B : BX (am_h0 L xs) h a v N 383 (lbs X)) (G : GO h o a v (lpF (ceF L xs) 8 0)) (g1 : G1 h o a v (lpF (ceF L xs)) C (nwF (ceF L xs))) (g2 : G2 h o a v (lpF (ceF L xs)) C P A (npF (ceF L xs))) (hc : nc ≤ 96) (hs : ns ≤ 4150 * nc) (hN : N ≤ -99999500 + (nc : Int))
    (k : ∀ (V W : Int) (h : AH) (v N : Int) (nc ns : Nat) (y3 y4 y5 y6 y7 : AV), BX (am_h0 L xs) h a v N 845 (lbs (X ++ grp (gV' (LVF (ceF L xs))) (nvF (ceF L xs)).toNat)) → GV h o a v (lpF (ceF L xs)) C P A V W (LK (ceF L xs) (nvF (ceF L xs)) 0) → nc ≤ 231 → ns ≤ 4150 * nc → N ≤ -99999500 + (nc : Int) → WP (d + 7) 177 (538, [(4, z), (2, a), (2, o), y3, y4, y5, y6, y7], [(0, ceF L xs 13), (2, o)], h, nc, ns) K) :
    WP (d + 7) 177 (355, [(4, z), (2, a), (2, o), y3, y4, y5, y6, y7], [(0, ceF L xs 8), (0, 1), (2, o)], h, nc, ns) K := by
  have rp := bl_rg (x := ceF L xs 5) (n := 7) (by decide)
  have ep : npF (ceF L xs) = 1 + bl (ceF L xs 5) 7 := rfl
  have rv := bl_rg (x := ceF L xs 8) (n := 7) (by decide)
  have evn : nvF (ceF L xs) = 1 + bl (ceF L xs 8) 7 := rfl
  have en : lpF (ceF L xs) 1 0 = npF (ceF L xs) := rfl
  have ev : lpF (ceF L xs) 2 0 = nvF (ceF L xs) := rfl
  have ew : lpF (ceF L xs) 0 0 = nwF (ceF L xs) := rfl
  have kn := B.kx.n
  have ba := B.tb.a1
  have bv := B.tb.v1
  have qo := G.q
  have qoo := qo.1
  have qc := g1.q.1.1
  have qp := g2.q.1.1
  have qc2 := g1.q.2
  have qp2 := g2.q.2
  refine v177_355 (t173 (by decide) (okx (v177_360 ?_)))
  rw [w32_id (x := 1 + bl (ceF L xs 8) 7) (by omega) (by omega), ← evn]
  have ko : KpO (am_n h) h (am_mk2 h 24 20 (nvF (ceF L xs)) 3) := KpO.mk (by omega)
  have Ga := G.ko ko
  have g1a := g1.ko G.q ko
  have g2a := g2.ko G.q ko
  have Ba := B.ko ko (B.kx.ko ko (N2 := N + (1 + nvF (ceF L xs))) (by show am_n h + 1 + nvF (ceF L xs) ≤ _; omega))
  have Tt : am_t (am_mk2 h 24 20 (nvF (ceF L xs)) 3) (am_n h) = 24 := if_pos rfl
  have Tl : am_l (am_mk2 h 24 20 (nvF (ceF L xs)) 3) (am_n h) = nvF (ceF L xs) := if_pos rfl
  have Tm : ∀ i, am_m (am_mk2 h 24 20 (nvF (ceF L xs)) 3) (am_n h) i = am_n h + 1 + i := fun i => if_pos rfl
  have Tn : am_n (am_mk2 h 24 20 (nvF (ceF L xs)) 3) = am_n h + 1 + nvF (ceF L xs) := rfl
  have Ti : ∀ i, 0 ≤ i → i < nvF (ceF L xs) → am_t (am_mk2 h 24 20 (nvF (ceF L xs)) 3) (am_n h + 1 + i) = 20 ∧ am_l (am_mk2 h 24 20 (nvF (ceF L xs)) 3) (am_n h + 1 + i) = 3 ∧ ∀ j, am_m (am_mk2 h 24 20 (nvF (ceF L xs)) 3) (am_n h + 1 + i) j = 0 := fun i i0 i1 => by
    have e1 : ¬ am_n h + 1 + i = h.2.2.2.1 := by show ¬ am_n h + 1 + i = am_n h; omega
    have e2 : h.2.2.2.1 < am_n h + 1 + i ∧ am_n h + 1 + i ≤ h.2.2.2.1 + nvF (ceF L xs) := by show am_n h < _ ∧ _ ≤ am_n h + _; omega
    exact ⟨(if_neg e1).trans (if_pos e2), (if_neg e1).trans (if_pos e2), fun j => (if_neg e1).trans (if_pos e2)⟩
  generalize am_mk2 h 24 20 (nvF (ceF L xs)) 3 = h1 at Ga g1a g2a Ba Tt Tl Tm Tn Ti ⊢
  refine ⟨⟨⟨by omega, Or.inl (by omega)⟩, by omega, by show ns + ((nvF (ceF L xs)).toNat + (nvF (ceF L xs)).toNat * 3) ≤ _; omega⟩, Ga.t, v177_369 ?_⟩
  have Gw := Ga.wo (i := 6) (x := am_n h) (by decide)
  have g1w := g1a.w (z := o) (i := 6) (x := am_n h) (Or.inr (by decide)) (by omega)
  have g2w := g2a.w (z := o) (i := 6) (x := am_n h) (Or.inr (by decide)) (by omega) (fun j j0 j1 => by have := (g2.m j j0 j1).2.1; omega)
  have Bw := Ba.w (z := o) (i := 6) (y := am_n h) ⟨by omega, qo.2.1, qo.2.2⟩
  have g3 : G3 (am_w h1 o 6 (am_n h)) o a v (lpF (ceF L xs)) (am_n h) := ⟨⟨⟨by omega, by show am_n h < am_n h1; omega⟩, by omega, by omega⟩, by rw [am_m_w, if_pos ⟨rfl, rfl⟩], Tt, Tl, fun i i0 i1 => by
    rw [ev] at i1
    obtain ⟨t1, t2, t3⟩ := Ti i i0 i1
    refine ⟨⟨⟨by omega, by show _ < am_n h1; omega⟩, by omega, by omega⟩, by rw [am_m_w, if_neg (by omega)]; exact Tm i, t1, t2, fun j => by rw [am_m_w, if_neg (by omega)]; exact t3 j⟩⟩
  have hA : ∀ i, 0 ≤ i → i < npF (ceF L xs) → A i < am_n h := fun i i0 i1 => (g2.m i i0 i1).1.1.2
  have nw : am_n (am_w h1 o 6 (am_n h)) = am_n h1 := rfl
  generalize am_w h1 o 6 (am_n h) = h2 at Gw g1w g2w Bw g3 nw ⊢
  rw [Gw.t, g3.p, g3.t, g3.l, g2w.p, g2w.t, g2w.l, en, ev]
  clear Ga g1a g2a Ba Tt Tl Tm Ti
  have kn2 := Bw.kx.n
  have qo2 := Gw.q
  have ko2 : KpO (am_n h2) h2 (am_mk2 h2 25 23 (nvF (ceF L xs)) (npF (ceF L xs))) := KpO.mk (by omega)
  have Gb := Gw.ko ko2
  have g1b := g1w.ko Gw.q ko2
  have g2b := g2w.ko Gw.q ko2
  have g3b := g3.ko Gw.q ko2
  have Bb := Bw.ko ko2 (Bw.kx.ko ko2 (N2 := N + (1 + nvF (ceF L xs)) + (1 + nvF (ceF L xs))) (by show am_n h2 + 1 + nvF (ceF L xs) ≤ _; omega))
  have Tt : am_t (am_mk2 h2 25 23 (nvF (ceF L xs)) (npF (ceF L xs))) (am_n h2) = 25 := if_pos rfl
  have Tl : am_l (am_mk2 h2 25 23 (nvF (ceF L xs)) (npF (ceF L xs))) (am_n h2) = nvF (ceF L xs) := if_pos rfl
  have Tm : ∀ i, am_m (am_mk2 h2 25 23 (nvF (ceF L xs)) (npF (ceF L xs))) (am_n h2) i = am_n h2 + 1 + i := fun i => if_pos rfl
  have Tn2 : am_n (am_mk2 h2 25 23 (nvF (ceF L xs)) (npF (ceF L xs))) = am_n h2 + 1 + nvF (ceF L xs) := rfl
  have Ti : ∀ i, 0 ≤ i → i < nvF (ceF L xs) → am_t (am_mk2 h2 25 23 (nvF (ceF L xs)) (npF (ceF L xs))) (am_n h2 + 1 + i) = 23 ∧ am_l (am_mk2 h2 25 23 (nvF (ceF L xs)) (npF (ceF L xs))) (am_n h2 + 1 + i) = npF (ceF L xs) ∧ ∀ j, am_m (am_mk2 h2 25 23 (nvF (ceF L xs)) (npF (ceF L xs))) (am_n h2 + 1 + i) j = 0 := fun i i0 i1 => by
    have e1 : ¬ am_n h2 + 1 + i = h2.2.2.2.1 := by show ¬ am_n h2 + 1 + i = am_n h2; omega
    have e2 : h2.2.2.2.1 < am_n h2 + 1 + i ∧ am_n h2 + 1 + i ≤ h2.2.2.2.1 + nvF (ceF L xs) := by show am_n h2 < _ ∧ _ ≤ am_n h2 + _; omega
    exact ⟨(if_neg e1).trans (if_pos e2), (if_neg e1).trans (if_pos e2), fun j => (if_neg e1).trans (if_pos e2)⟩
  have mul : (nvF (ceF L xs)).toNat * (npF (ceF L xs)).toNat ≤ 49 := Nat.mul_le_mul (n₁ := (nvF (ceF L xs)).toNat) (m₁ := (npF (ceF L xs)).toNat) (n₂ := 7) (m₂ := 7) (by omega) (by omega)
  generalize am_mk2 h2 25 23 (nvF (ceF L xs)) (npF (ceF L xs)) = h3 at Gb g1b g2b g3b Bb Tt Tl Tm Tn2 Ti ⊢
  refine ⟨rfl, by decide, rfl, by decide, ⟨⟨by omega, Or.inl (by omega)⟩, by omega, by show ns + ((nvF (ceF L xs)).toNat + (nvF (ceF L xs)).toNat * 3) + _ ≤ _; omega⟩, Gb.t, v177_387 ?_⟩
  have Gc := Gb.wo (i := 7) (x := am_n h2) (by decide)
  have g1c := g1b.w (z := o) (i := 7) (x := am_n h2) (Or.inr (by decide)) (by omega)
  have g2c := g2b.w (z := o) (i := 7) (x := am_n h2) (Or.inr (by decide)) (by omega) (fun j j0 j1 => by have := (g2.m j j0 j1).2.1; omega)
  have g3c := g3b.w (z := o) (i := 7) (x := am_n h2) (Or.inr (by decide)) (by omega) (fun j j0 j1 => by omega)
  have Bc := Bb.w (z := o) (i := 7) (y := am_n h2) ⟨by omega, qo2.2.1, qo2.2.2⟩
  have ba2 := Bw.tb.a1
  have bv2 := Bw.tb.v1
  have g4 : G4 (am_w h3 o 7 (am_n h2)) o a v (lpF (ceF L xs)) (am_n h2) (LK (ceF L xs) ((0 : Nat) : Int) 0) := ⟨⟨⟨by omega, by show am_n h2 < am_n h3; omega⟩, by omega, by omega⟩, by rw [am_m_w, if_pos ⟨rfl, rfl⟩], Tt, Tl, fun i i0 i1 => by
    rw [ev] at i1
    obtain ⟨t1, t2, t3⟩ := Ti i i0 i1
    refine ⟨⟨⟨by omega, by show _ < am_n h3; omega⟩, by omega, by omega⟩, by rw [am_m_w, if_neg (by omega)]; exact Tm i, t1, t2, fun j _ _ => ?_⟩
    rw [am_m_w, if_neg (by omega), t3 j]
    unfold LK
    rw [if_neg (by omega)]
    by_cases e : i = ((0 : Nat) : Int)
    · rw [if_pos e]
      rfl
    · rw [if_neg e]⟩
  refine l389 X hX (V := am_n h) (W := am_n h2) (C := C) (P := P) (A := A) (nvF (ceF L xs)).toNat 0 (by omega) (by omega) _ v (N + (1 + nvF (ceF L xs)) + (1 + nvF (ceF L xs))) (nc + (1 + (nvF (ceF L xs)).toNat) + (1 + (nvF (ceF L xs)).toNat)) (ns + ((nvF (ceF L xs)).toNat + (nvF (ceF L xs)).toNat * 3) + ((nvF (ceF L xs)).toNat + (nvF (ceF L xs)).toNat * (npF (ceF L xs)).toNat)) _ _ _ _ ?_ ⟨Gc, g1c, g2c, g3c, g4, ⟨by omega, by rw [ev]; omega⟩, hA⟩ (by omega) (by omega) (by omega) (k (am_n h) (am_n h2))
  show BX _ _ _ _ _ _ (lbs (X ++ []))
  rw [List.append_nil]
  exact Bc.re Bc.kx.n.2 (by omega)
end
