/-! ===== the law's list: wards, the budget ===== -/
theorem grp_len0 {lp : TT} {n : Nat} (hn : n ≤ 3) : (lbs (grp (gW lp) n)).length ≤ 60 := by
  have := (grp_bd (g := gW lp) (x := 5) (y := 20) (N := n) (fun k hk => by
    have d1 := dg_l4 (x := (k : Int))
    have d2 := dg_l4 (x := lp 4 (k : Int))
    refine ⟨Nat.le_refl _, ?_⟩
    show ([119, 97, 114, 100, 32, 119] ++ dg (k : Int) ++ [32, 99, 97, 112, 32] ++ dg (lp 4 (k : Int)) ++ [59]).length ≤ 20
    simp only [List.length_append, List.length_cons, List.length_nil]
    omega)).2
  omega
theorem lbs_1 {l : LnT} : lbs [l] = l.1 := by
  show l.1 ++ [] = l.1
  rw [List.append_nil]
section
variable {d : Nat} {L : Nat} {xs : Nat → Int32} {o a z : Int} {K : AK}
theorem l27 (C : Int) : ∀ (j i : Nat), (i : Int) + (j : Int) = nwF (ceF L xs) → i + j ≤ 3 → ∀ (h : AH) (v N : Int) (nc ns : Nat) (y4 y5 y6 y7 : AV), BX (am_h0 L xs) h a v N 60 (lbs (grp (gW (lpF (ceF L xs))) i)) → GO h o a v 100 → G1 h o a v (lpF (ceF L xs)) C (i : Int) → nc ≤ 7 + 5 * i → ns ≤ 4150 * nc → N ≤ -99999500 + (nc : Int) →
    (∀ (h : AH) (v N : Int) (nc ns : Nat) (y3 y4 y5 y6 y7 : AV), BX (am_h0 L xs) h a v N 60 (lbs (grp (gW (lpF (ceF L xs))) (nwF (ceF L xs)).toNat)) → GO h o a v 100 → G1 h o a v (lpF (ceF L xs)) C (nwF (ceF L xs)) → nc ≤ 22 → ns ≤ 4150 * nc → N ≤ -99999500 + (nc : Int) → WP (d + 7) 177 (94, [(4, z), (2, a), (2, o), y3, y4, y5, y6, y7], [(0, ceF L xs 0)], h, nc, ns) K) →
    WP (d + 7) 177 (27, [(4, z), (2, a), (2, o), (0, (i : Int)), y4, y5, y6, y7], [], h, nc, ns) K := by
  intro j
  have en : lpF (ceF L xs) 0 0 = nwF (ceF L xs) := rfl
  induction j with
  | zero =>
    intro i hij hn h v N nc ns y4 y5 y6 y7 B G g1 hc hs hN k
    refine v177_27 ?_
    rw [G.t, g1.p, g1.t, g1.l, en]
    refine ⟨rfl, by decide, fun u => absurd u (by omega), fun _ => t174 B.kx (by decide) (okx ?_)⟩
    have e : i = (nwF (ceF L xs)).toNat := by omega
    subst e
    have g1' : G1 h o a v (lpF (ceF L xs)) C (nwF (ceF L xs)) := by
      rw [show nwF (ceF L xs) = (((nwF (ceF L xs)).toNat : Nat) : Int) by omega]
      exact g1
    exact k h v N nc ns _ _ _ _ _ B G g1' (by omega) hs hN
  | succ j ih =>
    intro i hij hn h v N nc ns y4 y5 y6 y7 B G g1 hc hs hN k
    have e4 : lpF (ceF L xs) 4 (i : Int) = bl (ceF L xs (1 + (i : Int))) 5 := rfl
    have r4 := bl_rg (x := ceF L xs (1 + (i : Int))) (n := 5) (by decide)
    refine v177_27 ?_
    rw [G.t, g1.p, g1.t, g1.l, en, show w32 (1 + (i : Int)) = 1 + (i : Int) from w32_id (by omega) (by omega)]
    refine ⟨rfl, by decide, fun _ => ⟨rfl, t174 B.kx (by omega) (okx (v177_48 (t173 (by decide) (okx (v177_52 ?_)))))⟩, fun u => absurd (show (i : Int) < nwF (ceF L xs) by omega) u⟩
    rw [g1.t, g1.l, en]
    refine ⟨⟨rfl, by omega, by omega⟩, ?_⟩
    have q := g1.q
    have qo := G.q
    have oC : ¬ o = C := by omega
    have B1 := B.w (z := C) (i := (i : Int)) (y := bl (ceF L xs (1 + (i : Int))) 5) ⟨by have := q.1.1; omega, q.1.2.1, q.1.2.2⟩
    have Ga : GO (am_w h C (i : Int) (bl (ceF L xs (1 + (i : Int))) 5)) o a v 100 := G.w oC
    have g1a : G1 (am_w h C (i : Int) (bl (ceF L xs (1 + (i : Int))) 5)) o a v (lpF (ceF L xs)) C ((i + 1 : Nat) : Int) := ⟨q, by rw [am_m_w, if_neg (fun u => oC u.1)]; exact g1.p, g1.t, g1.l, fun w w0 w1 => by
      rw [am_m_w]
      by_cases e : w = (i : Int)
      · rw [if_pos ⟨rfl, e⟩, e, e4]
      · rw [if_neg (fun u => e u.2)]
        exact g1.m w w0 (by omega)⟩
    generalize am_w h C (i : Int) (bl (ceF L xs (1 + (i : Int))) 5) = h1 at B1 Ga g1a ⊢
    refine v177_53 ⟨⟨B1.tb.t, by omega, by omega⟩, wC B1 22 rfl (by decide) (ts := [119, 97, 114, 100, 32, 119]) rfl (by omega) (by simp) (fun h2 v2 B2 f2 => okx (v177_59 ⟨⟨B2.tb.t, by omega, by omega⟩, wN B2 (by omega) (by omega) (by simp) (fun h3 v3 B3 f3 => okx (v177_63 ⟨⟨B3.tb.t, by omega, by omega⟩, wC B3 23 rfl (by decide) (ts := [32, 99, 97, 112, 32]) rfl (by omega) (by simp) (fun h4 v4 B4 f4 => okx (v177_68 ?_))⟩))⟩))⟩
    have F4 := (f2.tr f3).tr f4
    have G4' := Ga.fv F4
    have g14 := g1a.fv Ga.q F4
    rw [G4'.t, g14.p, g14.t, g14.l, en, g14.m (i : Int) (by omega) (by omega), e4]
    refine ⟨rfl, ⟨rfl, by omega, by omega⟩, ⟨B4.tb.t, by omega, by omega⟩, wN B4 (by omega) (by omega) (by simp) (fun h5 v5 B5 f5 => okx (v177_77 ⟨⟨B5.tb.t, by omega, by omega⟩, wC B5 24 rfl (by decide) (ts := [59]) rfl (by omega) (by simp) (fun h6 v6 B6 f6 => okx (v177_82 ?_))⟩))⟩
    have F6 := f5.tr f6
    have B6' : BX (am_h0 L xs) h6 a v6 (N + 1 + 1 + 1 + 1 + 1) 60 (lbs (grp (gW (lpF (ceF L xs))) (i + 1))) := by
      have e : lbs (grp (gW (lpF (ceF L xs))) i) ++ [119, 97, 114, 100, 32, 119] ++ dg (i : Int) ++ [32, 99, 97, 112, 32] ++ dg (bl (ceF L xs (1 + (i : Int))) 5) ++ [59] = lbs (grp (gW (lpF (ceF L xs))) (i + 1)) := by
        show _ = lbs (grp (gW (lpF (ceF L xs))) i ++ [gW (lpF (ceF L xs)) i])
        rw [lbs_app, lbs_1]
        show _ = lbs (grp (gW (lpF (ceF L xs))) i) ++ ([119, 97, 114, 100, 32, 119] ++ dg (i : Int) ++ [32, 99, 97, 112, 32] ++ dg (bl (ceF L xs (1 + (i : Int))) 5) ++ [59])
        simp
      rw [← e]
      exact B6.re B6.kx.n.2 (by rw [e]; exact grp_len0 (by omega))
    rw [show w32 ((i : Int) + 1) = ((i + 1 : Nat) : Int) by rw [w32_id (by omega) (by omega)]; omega]
    exact ih (i + 1) (by omega) (by omega) h6 v6 _ _ _ _ _ _ _ B6' (G4'.fv F6) (g14.fv G4'.q F6) (by omega) (by omega) (by omega) k
/-- to where projects begin -/
theorem l94 {C : Int} {h : AH} {v N : Int} {nc ns : Nat} {y3 y4 y5 y6 y7 : AV} (B : BX (am_h0 L xs) h a v N 60 (lbs (grp (gW (lpF (ceF L xs))) (nwF (ceF L xs)).toNat))) (G : GO h o a v 100) (g1 : G1 h o a v (lpF (ceF L xs)) C (nwF (ceF L xs))) (hc : nc ≤ 22) (hs : ns ≤ 4150 * nc) (hN : N ≤ -99999500 + (nc : Int))
    (k : ∀ (h : AH) (v N : Int) (nc ns : Nat) (y3 y4 y5 y6 y7 : AV), BX (am_h0 L xs) h a v N 75 (lbs (grp (gW (lpF (ceF L xs))) (nwF (ceF L xs)).toNat ++ gU (lpF (ceF L xs)) (hbF (ceF L xs)))) → GO h o a v (lpF (ceF L xs) 8 0) → G1 h o a v (lpF (ceF L xs)) C (nwF (ceF L xs)) → nc ≤ 25 → ns ≤ 4150 * nc → N ≤ -99999500 + (nc : Int) → WP (d + 7) 177 (165, [(4, z), (2, a), (2, o), y3, y4, y5, y6, y7], [(0, ceF L xs 5), (0, 1), (2, o)], h, nc, ns) K) :
    WP (d + 7) 177 (94, [(4, z), (2, a), (2, o), y3, y4, y5, y6, y7], [(0, ceF L xs 0)], h, nc, ns) K := by
  have e8 : lpF (ceF L xs) 8 0 = if hbF (ceF L xs) = true then buF (ceF L xs) else 100 := rfl
  refine v177_94 (t173 (by decide) (okx (v177_100 ⟨fun u => t174 B.kx (by decide) (okx (v177_109 (t174 B.kx (by decide) (okx (v177_114 (t173 (by decide) (okx (v177_121 ?_)))))))), fun u => t174 B.kx (by decide) (okx ?_)⟩)))
  · have hb : hbF (ceF L xs) = true := decide_eq_true u
    have key : ∀ x : Int, x = buF (ceF L xs) → 0 ≤ x ∧ x < 10000 → WP (d + 7) 177 (136, [(4, z), (2, a), (2, o), y3, y4, y5, y6, y7], [(0, x), (2, o)], h, nc, ns) K := by
      intro x ex hx
      have qo := G.q
      have Bo := B.w (z := o) (i := 3) (y := x) ⟨by have := qo.1; omega, qo.2.1, qo.2.2⟩
      have Go : GO (am_w h o 3 x) o a v x := by
        have e : ∀ j, ¬ j = 3 → am_m (am_w h o 3 x) o j = am_m h o j := fun j hj => by rw [am_m_w, if_neg (fun u => hj u.2)]
        exact ⟨G.q, G.t, (e _ (by decide)).trans G.m0, (e _ (by decide)).trans G.m1, (e _ (by decide)).trans G.m2, by rw [am_m_w, if_pos ⟨rfl, rfl⟩], (e _ (by decide)).trans G.m9⟩
      have go := g1.w (z := o) (i := 3) (x := x) (Or.inr (by decide)) (by have := g1.q.2; omega)
      refine v177_136 ⟨G.t, ?_⟩
      generalize am_w h o 3 x = h1 at Bo Go go ⊢
      refine v177_139 ⟨⟨Bo.tb.t, by omega, by omega⟩, wC Bo 25 rfl (by decide) (ts := [98, 117, 100, 103, 101, 116, 32]) rfl (by omega) (by simp) (fun h2 v2 B2 f2 => okx (v177_145 ?_))⟩
      have G2 := Go.fv f2
      have g12 := go.fv Go.q f2
      rw [G2.t, G2.m3]
      refine ⟨rfl, ⟨B2.tb.t, by omega, by omega⟩, wN B2 hx (by omega) (by simp) (fun h3 v3 B3 f3 => okx (v177_152 ⟨⟨B3.tb.t, by omega, by omega⟩, wC B3 26 rfl (by decide) (ts := [59, 10]) rfl (by omega) (by simp) (fun h4 v4 B4 f4 => okx (v177_157 (t174 B4.kx (by decide) (okx ?_))))⟩))⟩
      have F4 := f3.tr f4
      have G4 := G2.fv F4
      have g14 := g12.fv G2.q F4
      have e : lbs (grp (gW (lpF (ceF L xs))) (nwF (ceF L xs)).toNat) ++ [98, 117, 100, 103, 101, 116, 32] ++ dg x ++ [59, 10] = lbs (grp (gW (lpF (ceF L xs))) (nwF (ceF L xs)).toNat ++ gU (lpF (ceF L xs)) (hbF (ceF L xs))) := by
        rw [lbs_app]
        unfold gU
        rw [if_pos hb, lbs_1]
        show _ = _ ++ ([98, 117, 100, 103, 101, 116, 32] ++ dg (lpF (ceF L xs) 8 0) ++ [59, 10])
        rw [e8, if_pos hb, ex]
        simp
      have eB : x = lpF (ceF L xs) 8 0 := by rw [e8, if_pos hb, ex]
      rw [eB] at G4
      rw [e] at B4
      exact k h4 v4 _ _ _ _ _ _ _ _ (B4.re B4.kx.n.2 (by
        rw [← e]
        have := B.ln
        have d1 := dg_l4 (x := x)
        simp only [List.length_append, List.length_cons, List.length_nil]
        omega)) G4 g14 (by omega) (by omega) (by omega)
    refine ⟨fun y => t173 (by decide) (okx (key _ ?_ (bl_rg (by decide)))), fun y => t173 (by decide) (okx (key _ ?_ ?_))⟩
    · unfold buF; rw [if_pos y]
    · unfold buF; rw [if_neg y]
    · have := bl_rg (x := ceF L xs 4) (n := 300) (by decide)
      omega
  · have hb : hbF (ceF L xs) = false := decide_eq_false u
    have e : lbs (grp (gW (lpF (ceF L xs))) (nwF (ceF L xs)).toNat ++ gU (lpF (ceF L xs)) (hbF (ceF L xs))) = lbs (grp (gW (lpF (ceF L xs))) (nwF (ceF L xs)).toNat) := by
      rw [hb]
      show lbs (_ ++ []) = _
      rw [List.append_nil]
    have e9 : lpF (ceF L xs) 8 0 = 100 := by rw [e8, hb]; rfl
    exact k h v N nc ns _ _ _ _ _ (by rw [e]; exact B.re B.kx.n.2 (by have := B.ln; omega)) (by rw [e9]; exact G) g1 (by omega) hs hN
end
