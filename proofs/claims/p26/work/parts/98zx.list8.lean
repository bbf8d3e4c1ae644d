/-! ===== the law's list, whole; the law's jury ===== -/
/-- addresses of the law's jury -/
def lsA (C P V W D : Int) (A B8 : Int → Int) : TT := fun k i => if k = 0 then C else if k = 1 then P else if k = 2 then V else if k = 3 then W else if k = 4 then D else if k = 5 then A i else if k = 6 then V + 1 + i else if k = 7 then W + 1 + i else B8 i
def LL (c : Int → Int) : List LnT := AL (lpF c) (LVF c) (bbF c) (hbF c) (nwF c).toNat (npF c).toNat (nvF c).toNat (nbF c).toNat
def LG (h : AH) (o a v : Int) (c : Int → Int) (C P V W D : Int) (A B8 : Int → Int) : Prop := (GV h o a v (lpF c) C P A V W (LK c (nvF c) 0)) ∧ (G5 h o a v (lpF c) (bbF c) D B8 (nbF c)) ∧ (W + lpF c 2 0 < D) ∧ (TB h a v (lbs (LL c))) ∧ (-100000000 ≤ a ∧ -100000000 ≤ v) ∧ (-100000000 ≤ am_n h ∧ am_n h ≤ -99998500)
theorem LG.g {h : AH} {o a v : Int} {c : Int → Int} {C P V W D : Int} {A B8 : Int → Int} (x : LG h o a v c C P V W D A B8) : GV h o a v (lpF c) C P A V W (LK c (nvF c) 0) := x.1
theorem LG.g5 {h : AH} {o a v : Int} {c : Int → Int} {C P V W D : Int} {A B8 : Int → Int} (x : LG h o a v c C P V W D A B8) : G5 h o a v (lpF c) (bbF c) D B8 (nbF c) := x.2.1
theorem LG.d {h : AH} {o a v : Int} {c : Int → Int} {C P V W D : Int} {A B8 : Int → Int} (x : LG h o a v c C P V W D A B8) : W + lpF c 2 0 < D := x.2.2.1
theorem LG.tb {h : AH} {o a v : Int} {c : Int → Int} {C P V W D : Int} {A B8 : Int → Int} (x : LG h o a v c C P V W D A B8) : TB h a v (lbs (LL c)) := x.2.2.2.1
theorem LG.ab {h : AH} {o a v : Int} {c : Int → Int} {C P V W D : Int} {A B8 : Int → Int} (x : LG h o a v c C P V W D A B8) : -100000000 ≤ a ∧ -100000000 ≤ v := x.2.2.2.2.1
theorem LG.n {h : AH} {o a v : Int} {c : Int → Int} {C P V W D : Int} {A B8 : Int → Int} (x : LG h o a v c C P V W D A B8) : -100000000 ≤ am_n h ∧ am_n h ≤ -99998500 := x.2.2.2.2.2
section
variable {d : Nat} {L : Nat} {xs : Nat → Int32} {a z : Int} {K : AK}
theorem s177 {h : AH} {v N : Int} (B : BX (am_h0 L xs) h a v N 0 []) (hN : N ≤ -99999900) (k : ∀ h2 o v2 C P V W D A B8, LG h2 o a v2 (ceF L xs) C P V W D A B8 → K 0 o h2) : am_call (d + 7) 177 [(4, z), (2, a)] h K := by
  have rw0 := bl_rg (x := ceF L xs 0) (n := 3) (by decide)
  have nw0 : nwF (ceF L xs) = 1 + bl (ceF L xs 0) 3 := rfl
  have kn := B.kx.n
  have ba := B.tb.a1
  have bv := B.tb.v1
  have n1 : am_n (am_a h 7 10 (am_df 7)) = am_n h + 1 := rfl
  have F1 : FP (am_n h) (am_n h) h (am_a h 7 10 (am_df 7)) := FP.rf.al
  have m1 : ∀ i, am_m (am_a h 7 10 (am_df 7)) (am_n h) i = am_df 7 i := fun i => if_pos rfl
  refine v177 ⟨⟨Or.inl (by omega), by decide, by decide⟩, ⟨by omega, by decide, by decide⟩, s155 (if_pos rfl) (by rw [n1]; omega) (by omega) (Or.inl (by rw [n1]; omega)) (fun h2 f2 n2 k3 m3 m4 m5 m6 m7 m8 m9 t4 => okx (v177_7 ⟨by omega, ?_⟩))⟩
  have F2 := F1.tr (Or.inl rfl) f2
  have ko := F2.ko (n := am_n h) (Int.le_refl _) (Int.le_refl _) (Int.le_refl _)
  rw [n1] at n2
  have Bo := B.ko ko (B.kx.ko ko (N2 := N + 6) (by omega))
  have G : GO h2 (am_n h) a v 100 := ⟨⟨⟨by omega, by omega⟩, by omega, by omega⟩, ((f2.2.2.2.1 (am_n h) (by rw [n1]; omega)).1).trans (if_pos rfl), (k3 0 (by decide) (by decide)).trans ((m1 0).trans rfl), (k3 1 (by decide) (by decide)).trans ((m1 1).trans rfl), (k3 2 (by decide) (by decide)).trans ((m1 2).trans rfl), m3, m9⟩
  clear F1 F2 f2 k3 m3 m4 m5 m6 m7 m8 m9 t4 ko n1 m1
  refine t174 Bo.kx (by decide) (okx (v177_15 (t173 (by decide) (okx (v177_19 ?_)))))
  rw [w32_id (x := 1 + bl (ceF L xs 0) 3) (by omega) (by omega), ← nw0]
  have ko : KpO (am_n h2) h2 (am_a h2 20 (nwF (ceF L xs)) (fun _ => 0)) := KpO.al
  have Ga := G.ko ko
  have Ba := Bo.ko ko (Bo.kx.ko ko (N2 := N + 7) (by show am_n h2 + 1 ≤ _; omega))
  have Tt : am_t (am_a h2 20 (nwF (ceF L xs)) (fun _ => 0)) (am_n h2) = 20 := if_pos rfl
  have Tl : am_l (am_a h2 20 (nwF (ceF L xs)) (fun _ => 0)) (am_n h2) = nwF (ceF L xs) := if_pos rfl
  have Tn : am_n (am_a h2 20 (nwF (ceF L xs)) (fun _ => 0)) = am_n h2 + 1 := rfl
  have ba2 := Bo.tb.a1
  have bv2 := Bo.tb.v1
  generalize am_a h2 20 (nwF (ceF L xs)) (fun _ => 0) = h3 at Ga Ba Tt Tl Tn ⊢
  refine ⟨⟨⟨⟨by omega, by omega⟩, Or.inl (by omega)⟩, by omega, by omega⟩, Ga.t, v177_25 ?_⟩
  have Gw := Ga.wo (i := 4) (x := am_n h2) (by decide)
  have Bw := Ba.w (z := am_n h) (i := 4) (y := am_n h2) ⟨by omega, by omega, by omega⟩
  have g1 : G1 (am_w h3 (am_n h) 4 (am_n h2)) (am_n h) a v (lpF (ceF L xs)) (am_n h2) ((0 : Nat) : Int) := ⟨⟨⟨⟨by omega, by show am_n h2 < am_n h3; omega⟩, by omega, by omega⟩, by omega⟩, by rw [am_m_w, if_pos ⟨rfl, rfl⟩], Tt, Tl, fun i i0 i1 => absurd i1 (by omega)⟩
  refine l27 (am_n h2) (nwF (ceF L xs)).toNat 0 (by omega) (by omega) _ v (N + 7) 7 (10 + (nwF (ceF L xs)).toNat) _ _ _ _ (Bw.re Bw.kx.n.2 (by decide)) Gw g1 (by omega) (by omega) (by omega) ?_
  intro h4 v4 N4 nc4 ns4 y3 y4 y5 y6 y7 B4 G4' g14 hc4 hs4 hN4
  refine l94 B4 G4' g14 hc4 hs4 hN4 ?_
  intro h5 v5 N5 nc5 ns5 y3 y4 y5 y6 y7 B5 G5' g15 hc5 hs5 hN5
  refine l165 B5.ln B5 G5' g15 hc5 hs5 hN5 ?_
  intro P h6 A v6 N6 nc6 ns6 y3 y4 y5 y6 y7 B6 G6 g16 g26 hc6 hs6 hN6
  refine l355 B6.ln B6 G6 g16 g26 hc6 hs6 hN6 ?_
  intro V W h7 v7 N7 nc7 ns7 y3 y4 y5 y6 y7 B7 G7 hc7 hs7 hN7
  refine l538 B7.ln B7 G7 hc7 hs7 hN7 ?_
  intro D h8 B8 v8 N8 hD B8' G8 g8 hN8
  have kn8 := B8'.kx.n
  have tb8 := B8'.tb
  refine k h8 (am_n h) v8 (am_n h2) P V W D A B8 ⟨G8, g8, hD, ?_, B8'.ab, by omega⟩
  have e : grp (gW (lpF (ceF L xs))) (nwF (ceF L xs)).toNat ++ gU (lpF (ceF L xs)) (hbF (ceF L xs)) ++ grp (gP (lpF (ceF L xs))) (npF (ceF L xs)).toNat ++ grp (gV' (LVF (ceF L xs))) (nvF (ceF L xs)).toNat ++ grp (gB (lpF (ceF L xs)) (bbF (ceF L xs))) (nbF (ceF L xs)).toNat = LL (ceF L xs) := by
    unfold LL AL
    simp only [List.append_assoc]
  rw [e] at tb8
  exact tb8
end
section
variable {c : Int → Int} {h : AH} {o a v C P V W D : Int} {A B8 : Int → Int}
theorem lsPI : PI (lpF c) := by
  have x := lpF_LA (c := c)
  obtain ⟨w1, w2, w3⟩ := x.n0
  obtain ⟨p1, p2, p3⟩ := x.n1
  obtain ⟨v1, v2, v3⟩ := x.n2
  obtain ⟨b1, b2⟩ := x.n3
  refine ⟨by omega, by omega, by omega, by omega, fun i i0 i1 => ?_, fun i i0 i1 => ?_, fun i i0 i1 => ?_⟩
  · have := x.c i i0 (by omega)
    omega
  · have := x.p i i0 (by omega)
    omega
  · have := x.k i i0 (by omega)
    omega
theorem lsSI : SI (lpF c) (s_bg (lpF c) 0) := by
  have x := lpF_LA (c := c)
  obtain ⟨w1, w2, w3⟩ := x.n0
  obtain ⟨p1, p2, p3⟩ := x.n1
  obtain ⟨v1, v2, v3⟩ := x.n2
  have xb := x.b
  refine ⟨by show 0 ≤ (0 : Int) ∧ (0 : Int) < 2000000000; omega, by show 0 ≤ lpF c 8 0 ∧ lpF c 8 0 ≤ 9999; exact xb.1, by show 0 ≤ (0 : Int) ∧ (0 : Int) ≤ 9999; omega, fun i _ _ => by show 0 ≤ (0 : Int) ∧ (0 : Int) ≤ 9999; omega, fun i i0 i1 => ?_, fun i => ?_, fun v p v0 p0 v1' p1' hh => ?_⟩
  · have := x.p i i0 (by omega)
    exact ⟨by show 1 ≤ lpF c 9 i ∧ lpF c 9 i ≤ 9999; omega, by show -1 ≤ (-1 : Int) ∧ (-1 : Int) ≤ 0; omega, Or.inl rfl⟩
  · show (if (0 ≤ i ∧ i / 12 < nvF c) ∧ i % 12 ∈ LVF c (i / 12) then (1 : Int) else 0) = 0 ∨ (if (0 ≤ i ∧ i / 12 < nvF c) ∧ i % 12 ∈ LVF c (i / 12) then (1 : Int) else 0) = 1
    split
    · exact Or.inr rfl
    · exact Or.inl rfl
  · show (if (0 ≤ 12 * v + p ∧ (12 * v + p) / 12 < nvF c) ∧ (12 * v + p) % 12 ∈ LVF c ((12 * v + p) / 12) then (1 : Int) else 0) = 0
    refine if_neg (fun y => ?_)
    rw [show (12 * v + p) / 12 = v by omega, show (12 * v + p) % 12 = p by omega] at y
    have ev : lpF c 2 0 = nvF c := rfl
    have ep : lpF c 1 0 = npF c := rfl
    obtain ⟨k, k1, k2, k3⟩ := LVn_mem (c := c) (v := v) (n := (npF c).toNat) y.2
    omega
theorem LG.sm (x : LG h o a v c C P V W D A B8) : SM h o (lsA C P V W D A B8) (lpF c) (s_bg (lpF c) 0) (bbF c) ∧ AO (lsA C P V W D A B8) (lpF c) o (fun b => (-100000000 ≤ b ∧ b < am_n h) ∧ ¬ b = a ∧ ¬ b = v) := by
  have y := lpF_LA (c := c)
  have g0 := x.g.g0
  have g1 := x.g.g1
  have g2 := x.g.g2
  have g3 := x.g.g3
  have g4 := x.g.g4
  have g5 := x.g5
  have hd := x.d
  have hn := x.n
  obtain ⟨⟨r1, r2⟩, r3⟩ := x.g.r
  obtain ⟨p1, p2, p3⟩ := y.n1
  obtain ⟨v1, v2, v3⟩ := y.n2
  have q0 := g0.q
  have q1 := g1.q
  have q2 := g2.q
  have q3 := g3.q
  have q4 := g4.q
  have q5 := g5.q
  have q0' := q0.1
  have q1' := q1.1.1
  have q2' := q2.1.1
  have q3' := q3.1
  have q4' := q4.1
  have q5' := q5.1
  have eb3 : lpF c 3 0 = nbF c := rfl
  have ev : lpF c 2 0 = nvF c := rfl
  have a0 : lsA C P V W D A B8 0 0 = C := rfl
  have a1 : lsA C P V W D A B8 1 0 = P := rfl
  have a2 : lsA C P V W D A B8 2 0 = V := rfl
  have a3 : lsA C P V W D A B8 3 0 = W := rfl
  have a4 : lsA C P V W D A B8 4 0 = D := rfl
  have a5 : ∀ i, lsA C P V W D A B8 5 i = A i := fun _ => rfl
  have a6 : ∀ i, lsA C P V W D A B8 6 i = V + 1 + i := fun _ => rfl
  have a7 : ∀ i, lsA C P V W D A B8 7 i = W + 1 + i := fun _ => rfl
  have a8 : ∀ i, lsA C P V W D A B8 8 i = B8 i := fun _ => rfl
  have m2 : ∀ i, 0 ≤ i → i < lpF c 1 0 → (-100000000 ≤ A i ∧ A i < am_n h) ∧ (¬ A i = a ∧ ¬ A i = v) ∧ P < A i ∧ A i < V := fun i i0 i1 => by
    have m := g2.m i i0 i1
    have m' := m.1.1
    have := r3 i i0 i1
    exact ⟨m.1.1, m.1.2, m.2.1, this⟩
  have m3 : ∀ i, 0 ≤ i → i < lpF c 2 0 → (-100000000 ≤ V + 1 + i ∧ V + 1 + i < am_n h) ∧ ¬ V + 1 + i = a ∧ ¬ V + 1 + i = v := fun i i0 i1 => (g3.m i i0 i1).1
  have m4 : ∀ i, 0 ≤ i → i < lpF c 2 0 → (-100000000 ≤ W + 1 + i ∧ W + 1 + i < am_n h) ∧ ¬ W + 1 + i = a ∧ ¬ W + 1 + i = v := fun i i0 i1 => (g4.m i i0 i1).1
  have m5 : ∀ i, 0 ≤ i → i < lpF c 3 0 → ((-100000000 ≤ B8 i ∧ B8 i < am_n h) ∧ ¬ B8 i = a ∧ ¬ B8 i = v) ∧ D < B8 i := fun i i0 i1 => ⟨(g5.m i i0 i1).1, (g5.m i i0 i1).2.1⟩
  refine ⟨⟨g0.t, g0.m0, g0.m1, g0.m2, g0.m3, g1.p, g2.p, g3.p, g4.p, g5.p, g0.m9, ⟨g1.t, g1.l, g1.m⟩, g2.t, g2.l, fun i i0 i1 => ?_, g3.t, g3.l, fun i i0 i1 => ?_, g4.t, g4.l, fun i i0 i1 => ?_, g5.t, g5.l, fun i i0 i1 => ?_, fun i i0 i1 => ?_, lsPI, lsSI, by omega, ⟨by omega, by rw [a3]; omega, fun i i0 i1 => ?_, fun i i0 i1 => ?_, fun i i0 i1 => ?_⟩, ⟨by rw [a1]; omega, by rw [a2]; omega, by rw [a4]; omega⟩, ⟨⟨q0'.2, q1'.2, q2'.2, q3'.2, q4'.2, q5'.2⟩, fun i i0 i1 => (m2 i i0 i1).1.2, fun i i0 i1 => ⟨(m3 i i0 i1).1.2, (m4 i i0 i1).1.2⟩, fun i i0 i1 => (m5 i i0 i1).1.1.2⟩, fun i j i0 i1 j0 j1 ij => ?_, fun i j i0 i1 j0 j1 ij => ?_, fun i j i0 i1 j0 j1 ij => ?_, fun i j i0 i1 j0 j1 => ?_, ⟨fun i i0 i1 => ?_, fun i i0 i1 => ?_⟩, fun k k0 k1 => ⟨fun i i0 i1 => ?_, fun i i0 i1 => ?_⟩⟩, q0, q1.1, q2.1, q3, q4, q5, fun i i0 i1 => (g2.m i i0 i1).1, fun i i0 i1 => ⟨m3 i i0 i1, m4 i i0 i1⟩, fun i i0 i1 => (m5 i i0 i1).1⟩
  · obtain ⟨-, -, e1, e2, e3, e4, e5, e6, e7, e8⟩ := g2.m i i0 i1
    exact ⟨e1, e2, e3, e4, e5, e6, e7, e8⟩
  · obtain ⟨-, e1, e2, e3, e4⟩ := g3.m i i0 i1
    exact ⟨e1, e2, e3, e4 0, e4 1⟩
  · obtain ⟨-, e1, e2, e3, e4⟩ := g4.m i i0 i1
    refine ⟨e1, e2, e3, fun j j0 j1 => (e4 j j0 j1).trans ?_⟩
    have em := y.m i j i0 (by omega) j0 (by omega)
    show LK c (nvF c) 0 i j = lpF c 10 (12 * i + j)
    rw [em]
    unfold LK
    exact if_pos (by omega)
  · obtain ⟨-, -, e1, e2, e3, e4⟩ := g5.m i i0 i1
    exact ⟨e1, e2, e3, e4⟩
  · have b1 := y.n3
    obtain ⟨-, e1, e2, e3, e4, e5⟩ := y.k i i0 (by omega)
    exact ⟨by omega, e2, e3, e4, e5⟩
  · have u1 := m3 i i0 i1
    have u2 := m4 i i0 i1
    rw [a6, a7]
    omega
  · have u1 := m2 i i0 i1
    rw [a5]
    omega
  · have u1 := m5 i i0 i1
    rw [a8]
    omega
  · rw [a5, a5]
    rcases Int.lt_or_gt_of_ne ij with u | u
    · have := g2.i i j i0 u j1
      omega
    · have := g2.i j i j0 u i1
      omega
  · rw [a6, a6]; omega
  · rw [a7, a7]; omega
  · have u1 := m2 i i0 i1
    rw [a5, a6]
    omega
  · have u1 := m2 i i0 i1
    rw [a5, a0]
    omega
  · rw [a6, a0]
    omega
  · have u1 := m2 i i0 i1
    have u2 := m5 k k0 k1
    rw [a5, a8]
    omega
  · have u2 := m5 k k0 k1
    rw [a6, a8]
    omega
end
