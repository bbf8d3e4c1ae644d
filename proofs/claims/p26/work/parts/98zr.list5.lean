/-! ===== the law's list: voters ===== -/
theorem lkB1_snoc {p : Int} : ∀ {L : List Int}, lkB1 (L ++ [p]) = lkB1 L ++ ([32, 112] ++ dg p)
  | [] => by
    show [32, 112] ++ dg p ++ [] = [] ++ ([32, 112] ++ dg p)
    simp
  | q :: L => by
    show [32, 112] ++ dg q ++ lkB1 (L ++ [p]) = [32, 112] ++ dg q ++ lkB1 L ++ ([32, 112] ++ dg p)
    rw [lkB1_snoc (L := L)]
    simp
theorem lkB_snoc {p : Int} {q : Int} {L : List Int} : lkB (q :: L ++ [p]) = lkB (q :: L) ++ ([32, 112] ++ dg p) := by
  show [32, 108, 105, 107, 101, 115, 32, 112] ++ dg q ++ lkB1 (L ++ [p]) = [32, 108, 105, 107, 101, 115, 32, 112] ++ dg q ++ lkB1 L ++ ([32, 112] ++ dg p)
  rw [lkB1_snoc]
  simp
theorem lkB_len {L : List Int} (hL : L.length ≤ 7) : (lkB L).length ≤ 54 := by
  cases L with
  | nil => decide
  | cons p L =>
    have l2 : L.length + 1 ≤ 7 := hL
    have d1 := dg_l4 (x := p)
    obtain ⟨i1, -⟩ := lkB1_len (L := L)
    show ([32, 108, 105, 107, 101, 115, 32, 112] ++ dg p ++ lkB1 L).length ≤ 54
    simp only [List.length_append, List.length_cons, List.length_nil]
    omega
theorem grp_len2 {c : Int → Int} {n : Nat} (hp : npF c ≤ 7) (hn : n ≤ 7) : (lbs (grp (gV' (LVF c)) n)).length ≤ 462 := by
  have := (grp_bd (g := gV' (LVF c)) (x := (lkT (LVF c 0)).length + 100) (y := 66) (N := n) (fun k hk => by
    have d1 := dg_l4 (x := (k : Int))
    have l1 := (LVn_nd (c := c) (v := (k : Int)) (n := (npF c).toNat) (by omega)).2
    have l2 := lkB_len (L := LVF c (k : Int)) (by show (LVn c (k : Int) (npF c).toNat).length ≤ 7; omega)
    have l3 : (lkT (LVF c (k : Int))).length ≤ 8 := by
      have l4 : (LVF c (k : Int)).length ≤ 7 := by show (LVn c (k : Int) (npF c).toNat).length ≤ 7; omega
      generalize LVF c (k : Int) = L at l4
      cases L with
      | nil => decide
      | cons p L =>
        have l5 : L.length + 1 ≤ 7 := l4
        obtain ⟨-, i2⟩ := lkB1_len (L := L)
        show (lkT1 L).length + 1 + 1 ≤ 8
        omega
    refine ⟨?_, ?_⟩
    · show (lkT (LVF c (k : Int))).length + 1 + 1 + 1 ≤ _
      omega
    · show ([118, 111, 116, 101, 114, 32, 118] ++ dg (k : Int) ++ lkB (LVF c (k : Int)) ++ [59]).length ≤ 66
      simp only [List.length_append, List.length_cons, List.length_nil]
      omega)).2
  omega
/-- likes set so far -/
def LK (c : Int → Int) (v : Int) (k : Nat) (i j : Int) : Int := if i < v then (if j ∈ LVF c i then 1 else 0) else if i = v then (if j ∈ LVn c v k then 1 else 0) else 0
theorem LK_s {c : Int → Int} {v : Int} : LK c v (npF c).toNat = LK c (v + 1) 0 := by
  funext i j
  unfold LK
  by_cases e : i < v
  · rw [if_pos e, if_pos (show i < v + 1 by omega)]
  · by_cases e2 : i = v
    · subst e2
      rw [if_neg e, if_pos rfl, if_pos (show i < i + 1 by omega)]
      rfl
    · rw [if_neg e, if_neg e2, if_neg (show ¬ i < v + 1 by omega)]
      by_cases e3 : i = v + 1
      · rw [if_pos e3]
        rfl
      · rw [if_neg e3]
theorem LK_n {c : Int → Int} {v : Int} {k : Nat} (e : LVn c v (k + 1) = LVn c v k) : LK c v (k + 1) = LK c v k := by
  unfold LK
  rw [e]
theorem LK_y {c : Int → Int} {v p : Int} {k : Nat} (e : LVn c v (k + 1) = LVn c v k ++ [p]) (i j : Int) : LK c v (k + 1) i j = if i = v ∧ j = p then 1 else LK c v k i j := by
  unfold LK
  rw [e]
  by_cases e1 : i < v
  · rw [if_pos e1, if_pos e1, if_neg (show ¬ (i = v ∧ j = p) by omega)]
  · by_cases e2 : i = v
    · rw [if_neg e1, if_pos e2, if_neg e1, if_pos e2]
      by_cases e3 : j = p
      · rw [if_pos (show i = v ∧ j = p from ⟨e2, e3⟩), if_pos (show j ∈ LVn c v k ++ [p] by rw [e3]; simp)]
      · rw [if_neg (show ¬ (i = v ∧ j = p) from fun u => e3 u.2)]
        by_cases e4 : j ∈ LVn c v k
        · rw [if_pos e4, if_pos (List.mem_append_left _ e4)]
        · rw [if_neg e4, if_neg (show ¬ j ∈ LVn c v k ++ [p] from fun u => by
            rcases List.mem_append.1 u with y | y
            · exact e4 y
            · exact e3 (List.mem_singleton.1 y))]
    · rw [if_neg e1, if_neg e2, if_neg e1, if_neg e2, if_neg (fun u => e2 u.1)]
def GV (h : AH) (o a v : Int) (lp : TT) (C P : Int) (A : Int → Int) (V W : Int) (Lk : Int → Int → Int) : Prop := (GO h o a v (lp 8 0)) ∧ (G1 h o a v lp C (lp 0 0)) ∧ (G2 h o a v lp C P A (lp 1 0)) ∧ (G3 h o a v lp V) ∧ (G4 h o a v lp W Lk) ∧ ((P < V ∧ V + lp 2 0 < W) ∧ ∀ i, 0 ≤ i → i < lp 1 0 → A i < V)
theorem GV.g0 {h : AH} {o a v : Int} {lp : TT} {C P : Int} {A : Int → Int} {V W : Int} {Lk : Int → Int → Int} (x : GV h o a v lp C P A V W Lk) : GO h o a v (lp 8 0) := x.1
theorem GV.g1 {h : AH} {o a v : Int} {lp : TT} {C P : Int} {A : Int → Int} {V W : Int} {Lk : Int → Int → Int} (x : GV h o a v lp C P A V W Lk) : G1 h o a v lp C (lp 0 0) := x.2.1
theorem GV.g2 {h : AH} {o a v : Int} {lp : TT} {C P : Int} {A : Int → Int} {V W : Int} {Lk : Int → Int → Int} (x : GV h o a v lp C P A V W Lk) : G2 h o a v lp C P A (lp 1 0) := x.2.2.1
theorem GV.g3 {h : AH} {o a v : Int} {lp : TT} {C P : Int} {A : Int → Int} {V W : Int} {Lk : Int → Int → Int} (x : GV h o a v lp C P A V W Lk) : G3 h o a v lp V := x.2.2.2.1
theorem GV.g4 {h : AH} {o a v : Int} {lp : TT} {C P : Int} {A : Int → Int} {V W : Int} {Lk : Int → Int → Int} (x : GV h o a v lp C P A V W Lk) : G4 h o a v lp W Lk := x.2.2.2.2.1
theorem GV.r {h : AH} {o a v : Int} {lp : TT} {C P : Int} {A : Int → Int} {V W : Int} {Lk : Int → Int → Int} (x : GV h o a v lp C P A V W Lk) : (P < V ∧ V + lp 2 0 < W) ∧ ∀ i, 0 ≤ i → i < lp 1 0 → A i < V := x.2.2.2.2.2
section
variable {h h2 : AH} {o a v v2 z B C P k V W D i x : Int} {lp : TT} {A : Int → Int} {Lk bb : Int → Int → Int}
theorem GV.fv (g : GV h o a v lp C P A V W Lk) (f : FV a v h h2 v2) : GV h2 o a v2 lp C P A V W Lk := ⟨g.g0.fv f, g.g1.fv g.g0.q f, g.g2.fv g.g0.q f, g.g3.fv g.g0.q f, g.g4.fv g.g0.q f, g.r⟩
theorem GV.ko (g : GV h o a v lp C P A V W Lk) (f : KpO (am_n h) h h2) : GV h2 o a v lp C P A V W Lk := ⟨g.g0.ko f, g.g1.ko g.g0.q f, g.g2.ko g.g0.q f, g.g3.ko g.g0.q f, g.g4.ko g.g0.q f, g.r⟩
theorem GV.cg (g : GV h o a v lp C P A V W Lk) {L2 : Int → Int → Int} (e : Lk = L2) : GV h o a v lp C P A V W L2 := e ▸ g
theorem GV.wr (g : GV h o a v lp C P A V W Lk) {u p : Int} (hu : 0 ≤ u ∧ u < lp 2 0) {L2 : Int → Int → Int} (e : ∀ i j, L2 i j = if i = u ∧ j = p then 1 else Lk i j) : GV (am_w h (W + 1 + u) p 1) o a v lp C P A V W L2 := by
  obtain ⟨⟨r1, r2⟩, r3⟩ := g.r
  have q1 := g.g1.q.2
  have q2 := g.g2.q.2
  refine ⟨g.g0.w (by omega), g.g1.w (Or.inl (by omega)) (by omega), g.g2.w (Or.inl (by omega)) (by omega) (fun j j0 j1 => by have := r3 j j0 j1; omega), g.g3.w (Or.inl (by omega)) (by omega) (fun j j0 j1 => by omega), ?_, g.r⟩
  have g4 := g.g4
  refine ⟨g4.q, by rw [am_m_w, if_neg (fun y => by omega)]; exact g4.p, g4.t, g4.l, fun i i0 i1 => ?_⟩
  obtain ⟨m1, m2, m3, m4, m5⟩ := g4.m i i0 i1
  refine ⟨m1, by rw [am_m_w, if_neg (fun y => by omega)]; exact m2, m3, m4, fun j j0 j1 => ?_⟩
  rw [am_m_w, e]
  by_cases ei : i = u
  · by_cases ej : j = p
    · rw [if_pos ⟨by omega, ej⟩, if_pos ⟨ei, ej⟩]
    · rw [if_neg (fun y => ej y.2), if_neg (fun y => ej y.2)]
      exact m5 j j0 j1
  · rw [if_neg (fun y => ei (by omega)), if_neg (fun y => ei y.1)]
    exact m5 j j0 j1
end
section
variable {d : Nat} {L : Nat} {xs : Nat → Int32} {o a z : Int} {K : AK}
theorem l433 {T : List Int} (hT : T.length ≤ 856) {C P V W : Int} {A : Int → Int} {u : Nat} (hu : (u : Int) < nvF (ceF L xs)) (hu7 : u < 7) : ∀ (j k : Nat), (k : Int) + (j : Int) = npF (ceF L xs) → k + j ≤ 7 → ∀ (h : AH) (v N f : Int) (nc ns : Nat) (y7 : AV), BX (am_h0 L xs) h a v N 1000 (T ++ lkB (LVn (ceF L xs) (u : Int) k)) → GV h o a v (lpF (ceF L xs)) C P A V W (LK (ceF L xs) (u : Int) k) → (f = 0 ↔ ¬ LVn (ceF L xs) (u : Int) k = []) → nc ≤ 114 + 17 * u + 2 * k → ns ≤ 4150 * nc → N ≤ -99999500 + (nc : Int) →
    (∀ (h : AH) (v N : Int) (nc ns : Nat) (y4 y5 y6 y7 : AV), BX (am_h0 L xs) h a v N 1000 (T ++ lkB (LVF (ceF L xs) (u : Int)) ++ [59]) → GV h o a v (lpF (ceF L xs)) C P A V W (LK (ceF L xs) ((u : Int) + 1) 0) → nc ≤ 129 + 17 * u → ns ≤ 4150 * nc → N ≤ -99999500 + (nc : Int) → WP (d + 7) 177 (524, [(4, z), (2, a), (2, o), (0, (u : Int)), y4, y5, y6, y7], [(2, a)], h, nc, ns) K) →
    WP (d + 7) 177 (433, [(4, z), (2, a), (2, o), (0, (u : Int)), (0, xvF (ceF L xs) (u : Int)), (0, f), (0, (k : Int)), y7], [], h, nc, ns) K := by
  intro j
  have en : lpF (ceF L xs) 1 0 = npF (ceF L xs) := rfl
  have ev : lpF (ceF L xs) 2 0 = nvF (ceF L xs) := rfl
  induction j with
  | zero =>
    intro k hkj hk h v N f nc ns y7 B G hf hc hs hN kk
    have e : k = (npF (ceF L xs)).toNat := by omega
    have l1 := (LVn_nd (c := ceF L xs) (v := (u : Int)) (n := k) (by omega)).2
    have l2 := lkB_len (L := LVn (ceF L xs) (u : Int) k) (by omega)
    have B' := B.re (N2 := N) (M2 := 999) B.kx.n.2 (by rw [List.length_append]; omega)
    have kn := B.kx.n
    refine v177_433 ?_
    rw [G.g0.t, G.g2.p, G.g2.t, G.g2.l, en]
    refine ⟨rfl, by decide, fun y => absurd y (by omega), fun _ => ⟨⟨B.tb.t, by omega, by omega⟩, wC B' 24 rfl (by decide) (ts := [59]) rfl (by omega) (by simp) (fun h2 v2 B2 f2 => okx (kk h2 v2 (N + 1) (nc + 1) (ns + 4150) _ _ _ _ ?_ ((G.fv f2).cg ?_) (by omega) (by omega) (by omega)))⟩⟩
    · rw [e] at B2
      exact B2
    · rw [e]
      exact LK_s
  | succ j ih =>
    intro k hkj hk h v N f nc ns y7 B G hf hc hs hN kk
    have l1 := (LVn_nd (c := ceF L xs) (v := (u : Int)) (n := k) (by omega)).2
    have l2 := lkB_len (L := LVn (ceF L xs) (u : Int) k) (by omega)
    have B' := B.re (N2 := N) (M2 := 910) B.kx.n.2 (by rw [List.length_append]; omega)
    have kn := B.kx.n
    have eL : LVn (ceF L xs) (u : Int) (k + 1) = LVn (ceF L xs) (u : Int) k ++ (if ((k : Int) * 5 + (u : Int)) % 7 < npF (ceF L xs) ∧ ¬ am_and (am_shr (xvF (ceF L xs) (u : Int)) (((k : Int) * 5 + (u : Int)) % 7)) 1 = 0 then [((k : Int) * 5 + (u : Int)) % 7] else []) := rfl
    have ep0 : 0 ≤ ((k : Int) * 5 + (u : Int)) % 7 := by omega
    have ep1 : ((k : Int) * 5 + (u : Int)) % 7 < 7 := by omega
    obtain ⟨m1, m2, m3, m4, -⟩ := G.g4.m (u : Int) (by omega) (by omega)
    have e5 : (w32 (w32 ((k : Int) * 5) + (u : Int))).tmod 7 = ((k : Int) * 5 + (u : Int)) % 7 := by
      rw [w32_id (x := (k : Int) * 5) (by omega) (by omega), w32_id (x := (k : Int) * 5 + (u : Int)) (by omega) (by omega)]
      exact Int.tmod_eq_emod_of_nonneg (by omega)
    refine v177_433 ?_
    rw [G.g0.t, G.g2.p, G.g2.t, G.g2.l, en, e5, show w32 ((k : Int) + 1) = ((k + 1 : Nat) : Int) by clear e5; rw [w32_id (by omega) (by omega)]; omega, G.g4.p, G.g4.t, G.g4.l, m2, m3, m4, en, ev]
    clear e5
    generalize ((k : Int) * 5 + (u : Int)) % 7 = p at eL ep0 ep1 ⊢
    have skip : (¬ (p < npF (ceF L xs) ∧ ¬ am_and (am_shr (xvF (ceF L xs) (u : Int)) p) 1 = 0)) → WP (d + 7) 177 (433, [(4, z), (2, a), (2, o), (0, (u : Int)), (0, xvF (ceF L xs) (u : Int)), (0, f), (0, ((k + 1 : Nat) : Int)), (0, p)], [], h, nc, ns) K := by
      intro y
      rw [if_neg y, List.append_nil] at eL
      rw [← eL] at B hf
      exact ih (k + 1) (by omega) (by omega) h v N f nc ns _ B (G.cg (LK_n eL).symm) hf (by omega) hs hN kk
    refine ⟨rfl, by decide, fun _ => ⟨by decide, rfl, by decide, fun y1 => ⟨fun y2 => skip (fun y => y.2 y2), fun y2 => ⟨rfl, ⟨Or.inr rfl, by omega, by omega⟩, ⟨rfl, Or.inr rfl, ep0, y1⟩, ?_⟩⟩, fun y1 => skip (fun y => y1 y.1)⟩, fun y => absurd (show (k : Int) < npF (ceF L xs) by omega) y⟩
    clear skip
    rw [if_pos ⟨y1, y2⟩] at eL
    have Gw := G.wr (u := (u : Int)) (p := p) ⟨by omega, by omega⟩ (LK_y eL)
    have qW := m1.1.1
    have Bw := B'.w (z := W + 1 + (u : Int)) (i := p) (y := 1) ⟨by omega, m1.2.1, m1.2.2⟩
    generalize am_w h (W + 1 + (u : Int)) p 1 = h1 at Gw Bw ⊢
    have fin : ∀ (hx : AH) (vx : Int), BX (am_h0 L xs) hx a vx (N + 1 + 1) 1000 (T ++ lkB (LVn (ceF L xs) (u : Int) (k + 1))) → GV hx o a vx (lpF (ceF L xs)) C P A V W (LK (ceF L xs) (u : Int) (k + 1)) → WP (d + 7) 177 (508, [(4, z), (2, a), (2, o), (0, (u : Int)), (0, xvF (ceF L xs) (u : Int)), (0, f), (0, (k : Int)), (0, p)], [(2, a)], hx, nc + 1 + 1, ns + 4150 + 4150) K := by
      intro hx vx Bx Gx
      refine v177_508 ?_
      rw [show w32 ((k : Int) + 1) = ((k + 1 : Nat) : Int) by rw [w32_id (by omega) (by omega)]; omega]
      refine ih (k + 1) (by omega) (by omega) hx vx _ 0 _ _ _ Bx Gx ?_ (by omega) (by omega) (by omega) kk
      rw [eL]
      simp
    refine v177_487 ⟨fun y => ⟨⟨Bw.tb.t, by omega, by omega⟩, ?_⟩, fun y => ⟨⟨Bw.tb.t, by omega, by omega⟩, ?_⟩⟩
    · refine wC Bw 33 rfl (by decide) (ts := [32, 112]) rfl (by omega) (by simp) (fun h2 v2 B2 f2 => okx (v177_503 ⟨⟨B2.tb.t, by omega, by omega⟩, wN B2 (by omega) (by omega) (by simp) (fun h3 v3 B3 f3 => okx (fin h3 v3 ?_ ((Gw.fv f2).fv f3)))⟩))
      have e : T ++ lkB (LVn (ceF L xs) (u : Int) k) ++ [32, 112] ++ dg p = T ++ lkB (LVn (ceF L xs) (u : Int) (k + 1)) := by
        rw [eL]
        have y2 := hf.1 y
        generalize LVn (ceF L xs) (u : Int) k = Q at y2 ⊢
        cases Q with
        | nil => exact absurd rfl y2
        | cons q Q => rw [lkB_snoc]; simp
      rw [← e]
      exact B3.re B3.kx.n.2 (by have := B3.ln; simp at this ⊢; omega)
    · refine wC Bw 32 rfl (by decide) (ts := [32, 108, 105, 107, 101, 115, 32, 112]) rfl (by omega) (by simp) (fun h2 v2 B2 f2 => okx (v177_503 ⟨⟨B2.tb.t, by omega, by omega⟩, wN B2 (by omega) (by omega) (by simp) (fun h3 v3 B3 f3 => okx (fin h3 v3 ?_ ((Gw.fv f2).fv f3)))⟩))
      have e : T ++ lkB (LVn (ceF L xs) (u : Int) k) ++ [32, 108, 105, 107, 101, 115, 32, 112] ++ dg p = T ++ lkB (LVn (ceF L xs) (u : Int) (k + 1)) := by
        rw [eL]
        have y2 : LVn (ceF L xs) (u : Int) k = [] := Decidable.byContradiction (fun n => y (hf.2 n))
        rw [y2]
        show T ++ [] ++ [32, 108, 105, 107, 101, 115, 32, 112] ++ dg p = T ++ ([32, 108, 105, 107, 101, 115, 32, 112] ++ dg p ++ [])
        simp
      rw [← e]
      exact B3.re B3.kx.n.2 (by have := B3.ln; simp at this ⊢; omega)
end
