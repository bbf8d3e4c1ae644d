/-! ===== mean and digest: the class ===== -/
theorem mean_ok : ∀ n : Nat, n < 145 → ∀ m : Nat, m < 13 → m ≠ 0 → vf_n64 (am_dd (am_i2d (n : Int)) (am_i2d (m : Int))) := by
  unfold vf_n64
  decide +kernel
def s_ps (pp ss : TT) : Int := sm (s_pl pp ss) (pp 2 0).toNat
def s_mn (pp ss : TT) : Int := if pp 2 0 = 0 then 0 else ((am_dd (am_i2d (s_ps pp ss)) (am_i2d (pp 2 0))).toNat : Int)
theorem pl_bd {pp ss : TT} {v : Int} (hI : PI pp) (hS : SI pp ss) : 0 ≤ s_pl pp ss v ∧ s_pl pp ss v ≤ 12 := by
  have np := hI.np
  have := sm_bd (f := f_pl ss v) (B := 1) (n := (pp 1 0).toNat) (fun j hj => by
    have := hS.fan (12 * v + (j : Int))
    unfold f_pl
    split <;> omega)
  unfold s_pl
  omega
theorem ps_bd {pp ss : TT} (hI : PI pp) (hS : SI pp ss) (n : Nat) (hn : n ≤ 12) : 0 ≤ sm (s_pl pp ss) n ∧ sm (s_pl pp ss) n ≤ 144 := by
  have := sm_bd (f := s_pl pp ss) (B := 12) (n := n) (fun j _ => pl_bd hI hS)
  omega
theorem c125 {d : Nat} {h : AH} {pp ss : TT} {tt : Int → List Op} {tp : Int → Int} {tl er q dq : Int} {K : AK} (g : GC h pp ss tt tl tp er q dq) (k : K 0 (s_mn pp ss) h) : am_call (d + 1) 125 [(2, 0)] h K := by
  have nv := g.c.I.nv
  unfold s_mn at k
  refine v125 ?_
  simp only [g.t0, g.f3, g.f8, g.f9, g.c.P.t, g.c.Q.t, true_and, g.c.nv]
  refine ⟨fun z => ?_, fun z => ?_⟩
  · rw [if_pos z] at k
    exact k
  · rw [if_neg z] at k
    suffices H : ∀ j : Nat, ∀ i : Nat, i + j = (pp 2 0).toNat → WP (d + 1) 125 (16, [(2, 0), (0, sm (s_pl pp ss) i), (0, (i : Int))], [], h, 0, 0) K from H _ 0 (Nat.zero_add _)
    intro j
    induction j with
    | zero =>
      intro i hij
      refine v125_16 ?_
      simp only [g.t0, g.f3, g.f8, g.f9, g.c.P.t, g.c.Q.t, true_and, g.c.nv]
      refine ⟨fun z => absurd z (by omega), fun _ => ⟨?_, ?_⟩⟩
      · have b := ps_bd g.c.I g.c.S i (by omega)
        have := mean_ok (sm (s_pl pp ss) i).toNat (by omega) (pp 2 0).toNat (by omega) (by omega)
        rw [Int.toNat_of_nonneg b.1, Int.toNat_of_nonneg nv.1] at this
        exact this
      · unfold s_ps at k
        rw [show (pp 2 0).toNat = i by omega] at k
        exact k
    | succ j ih =>
      intro i hij
      have b := ps_bd g.c.I g.c.S (i + 1) (by omega)
      have G := ih (i + 1) (by omega)
      rw [show sm (s_pl pp ss) (i + 1) = sm (s_pl pp ss) i + s_pl pp ss (i : Int) from rfl] at b G
      refine v125_16 ?_
      simp only [g.t0, g.f3, g.f8, g.f9, g.c.P.t, g.c.Q.t, true_and, g.c.nv]
      refine ⟨fun _ => c57 g.c (by omega) (by omega) ?_, fun z => absurd (show (i : Int) < pp 2 0 by omega) z⟩
      show WP _ _ _ _
      rw [w32_nat (by omega), w32_id (by omega) (by omega)]
      exact G
def s_dd (x y : Int) : Int := w64 (w64 (x * 31) + y)
def s_df (f : Int → Int) : Nat → Int → Int
  | 0, x => x
  | n + 1, x => s_dd (s_df f n x) (f (n : Int))
def s_do (f : Int → Int → Int) : Nat → Int → Int
  | 0, x => x
  | n + 1, x => f (n : Int) (s_do f n x)
theorem s_do_succ {f : Int → Int → Int} {n : Nat} {x : Int} : s_do f (n + 1) x = f (n : Int) (s_do f n x) := rfl
noncomputable def s_dg (pp ss : TT) (tt : Int → List Op) (tl : Int) : Int :=
  s_dd (s_do (fun v => s_df (s_ov pp ss v) 4) (pp 2 0).toNat (s_do (fun p x => s_dd (s_df (s_op pp ss tt p) 8 x) (s_sh pp ss p)) (pp 1 0).toNat (s_do (fun w => s_df (s_ow pp ss w) 4) (pp 0 0).toNat (s_df (s_ct pp ss tl) 12 881)))) (s_nx pp (s_col pp ss) tt (-1))
theorem c126 {d : Nat} {h : AH} {pp ss : TT} {tt : Int → List Op} {tp : Int → Int} {tl er q dq : Int} {K : AK} (g : GC h pp ss tt tl tp er q dq) (k : ∀ h2, Fr 35 18 h h2 → GC h2 pp ss tt tl tp er q dq → K 0 (s_dg pp ss tt tl) h2) : am_call (d + 8) 126 [(2, 0)] h K := by
  have nw := g.c.I.nw
  have np := g.c.I.np
  have nv := g.c.I.nv
  unfold s_dg at k
  have HV : ∀ x, (∀ h2, Fr 35 18 h h2 → GC h2 pp ss tt tl tp er q dq → K 0 (s_dd (s_do (fun v => s_df (s_ov pp ss v) 4) (pp 2 0).toNat x) (s_nx pp (s_col pp ss) tt (-1))) h2) → ∀ h1 y4, Fr 35 18 h h1 → GC h1 pp ss tt tl tp er q dq → WP (d + 8) 126 (154, [(2, 0), (1, x), (8, 0), (0, 0), y4], [], h1, 0, 0) K := by
    intro x k h1 y4 f1 g1
    suffices H : ∀ j : Nat, ∀ i : Nat, i + j = (pp 2 0).toNat → ∀ y4, WP (d + 8) 126 (154, [(2, 0), (1, s_do (fun v => s_df (s_ov pp ss v) 4) i x), (8, 0), (0, (i : Int)), y4], [], h1, 0, 0) K from H _ 0 (Nat.zero_add _) y4
    intro j
    induction j with
    | zero =>
      intro i hij y4
      refine v126_154 ?_
      simp only [g1.t0, g1.f3, g1.f8, g1.f9, g1.c.P.t, g1.c.Q.t, true_and, g1.c.nv]
      refine ⟨fun z => absurd z (by omega), fun _ => c115 g1 (fun h2 f2 g2 => ?_)⟩
      have k1 := k h2 (f1.tr (f2.wide (by decide) (by decide))) g2
      rw [show (pp 2 0).toNat = i by omega] at k1
      exact k1
    | succ j ih =>
      intro i hij y4
      have G := ih (i + 1) (by omega)
      rw [s_do_succ] at G
      generalize s_do (fun v => s_df (s_ov pp ss v) 4) i x = x1 at G ⊢
      refine v126_154 ?_
      simp only [g1.t0, g1.f3, g1.f8, g1.f9, g1.c.P.t, g1.c.Q.t, true_and, g1.c.nv]
      refine ⟨fun _ => ?_, fun z => absurd (show (i : Int) < pp 2 0 by omega) z⟩
      suffices H2 : ∀ j2 : Nat, ∀ i2 : Nat, i2 + j2 = 4 → WP (d + 8) 126 (168, [(2, 0), (1, s_df (s_ov pp ss (i : Int)) i2 x1), (8, 0), (0, (i : Int)), (0, (i2 : Int))], [], h1, 0, 0) K from H2 4 0 rfl
      intro j2
      induction j2 with
      | zero =>
        intro i2 hi2
        refine v126_168 ⟨fun _ => ?_, fun z => absurd (show (3 : Int) < (i2 : Int) by omega) z⟩
        rw [w32_nat (by omega), show i2 = 4 by omega]
        exact G _
      | succ j2 ih2 =>
        intro i2 hi2
        have G2 := ih2 (i2 + 1) (by omega)
        refine v126_168 ⟨fun z => absurd z (by omega), fun _ => ?_⟩
        simp only [g1.t0, g1.f3, g1.f8, g1.f9, g1.c.P.t, g1.c.Q.t, true_and]
        refine c55 g1.c (by omega) (by omega) ?_
        show WP _ _ _ _
        rw [w32_nat (by omega)]
        exact G2
  have HP : ∀ x, (∀ h2, Fr 35 18 h h2 → GC h2 pp ss tt tl tp er q dq → K 0 (s_dd (s_do (fun v => s_df (s_ov pp ss v) 4) (pp 2 0).toNat (s_do (fun p x => s_dd (s_df (s_op pp ss tt p) 8 x) (s_sh pp ss p)) (pp 1 0).toNat x)) (s_nx pp (s_col pp ss) tt (-1))) h2) → ∀ h1 y4, Fr 35 18 h h1 → GC h1 pp ss tt tl tp er q dq → WP (d + 8) 126 (85, [(2, 0), (1, x), (8, 0), (0, 0), y4], [], h1, 0, 0) K := by
    intro x k h1 y4 f1 g1
    suffices H : ∀ j : Nat, ∀ i : Nat, i + j = (pp 1 0).toNat → ∀ h1 y4, Fr 35 18 h h1 → GC h1 pp ss tt tl tp er q dq → WP (d + 8) 126 (85, [(2, 0), (1, s_do (fun p x => s_dd (s_df (s_op pp ss tt p) 8 x) (s_sh pp ss p)) i x), (8, 0), (0, (i : Int)), y4], [], h1, 0, 0) K from H _ 0 (Nat.zero_add _) h1 y4 f1 g1
    clear h1 y4 f1 g1
    intro j
    induction j with
    | zero =>
      intro i hij h1 y4 f1 g1
      refine v126_85 ?_
      simp only [g1.t0, g1.f3, g1.f8, g1.f9, g1.c.P.t, g1.c.Q.t, true_and, g1.c.np]
      refine ⟨fun z => absurd z (by omega), fun _ => HV _ (fun h2 f2 g2 => ?_) h1 _ f1 g1⟩
      have k1 := k h2 f2 g2
      rw [show (pp 1 0).toNat = i by omega] at k1
      exact k1
    | succ j ih =>
      intro i hij h1 y4 f1 g1
      have G := ih (i + 1) (by omega)
      rw [s_do_succ] at G
      generalize s_do (fun p x => s_dd (s_df (s_op pp ss tt p) 8 x) (s_sh pp ss p)) i x = x1 at G ⊢
      refine v126_85 ?_
      simp only [g1.t0, g1.f3, g1.f8, g1.f9, g1.c.P.t, g1.c.Q.t, true_and, g1.c.np]
      refine ⟨fun _ => ?_, fun z => absurd (show (i : Int) < pp 1 0 by omega) z⟩
      suffices H2 : ∀ j2 : Nat, ∀ i2 : Nat, i2 + j2 = 8 → ∀ h1, Fr 35 18 h h1 → GC h1 pp ss tt tl tp er q dq → WP (d + 8) 126 (99, [(2, 0), (1, s_df (s_op pp ss tt (i : Int)) i2 x1), (8, 0), (0, (i : Int)), (0, (i2 : Int))], [], h1, 0, 0) K from H2 8 0 rfl h1 f1 g1
      clear h1 f1 g1
      intro j2
      induction j2 with
      | zero =>
        intro i2 hi2 h1 f1 g1
        refine v126_99 ⟨fun _ => ?_, fun z => absurd (show (7 : Int) < (i2 : Int) by omega) z⟩
        simp only [g1.t0, g1.f3, g1.f8, g1.f9, g1.c.P.t, g1.c.Q.t, true_and]
        refine c62 g1.c (by omega) (by omega) ?_
        show WP _ _ _ _
        rw [w32_nat (by omega), show i2 = 8 by omega]
        exact G h1 _ f1 g1
      | succ j2 ih2 =>
        intro i2 hi2 h1 f1 g1
        have G2 := ih2 (i2 + 1) (by omega)
        refine v126_99 ⟨fun z => absurd z (by omega), fun _ => ?_⟩
        simp only [g1.t0, g1.f3, g1.f8, g1.f9, g1.c.P.t, g1.c.Q.t, true_and]
        refine c54 g1.c g1.ct (by omega) (by omega) (fun h2 f2 c2 => ?_)
        show WP _ _ _ _
        rw [w32_nat (by omega)]
        exact G2 h2 (f1.tr (f2.fr.wide (by decide) (by decide))) (g1.pw f2.fr c2 ((f2.2.2.2.2 35 2 (by decide) (by decide)).trans g1.lo) g1.hb g1.sb)
  have HW : ∀ x, (∀ h2, Fr 35 18 h h2 → GC h2 pp ss tt tl tp er q dq → K 0 (s_dd (s_do (fun v => s_df (s_ov pp ss v) 4) (pp 2 0).toNat (s_do (fun p x => s_dd (s_df (s_op pp ss tt p) 8 x) (s_sh pp ss p)) (pp 1 0).toNat (s_do (fun w => s_df (s_ow pp ss w) 4) (pp 0 0).toNat x))) (s_nx pp (s_col pp ss) tt (-1))) h2) → ∀ y4, WP (d + 8) 126 (33, [(2, 0), (1, x), (8, 0), (0, 0), y4], [], h, 0, 0) K := by
    intro x k y4
    suffices H : ∀ j : Nat, ∀ i : Nat, i + j = (pp 0 0).toNat → ∀ y4, WP (d + 8) 126 (33, [(2, 0), (1, s_do (fun w => s_df (s_ow pp ss w) 4) i x), (8, 0), (0, (i : Int)), y4], [], h, 0, 0) K from H _ 0 (Nat.zero_add _) y4
    intro j
    induction j with
    | zero =>
      intro i hij y4
      refine v126_33 ?_
      simp only [g.t0, g.f3, g.f8, g.f9, g.c.P.t, g.c.Q.t, true_and, g.c.nw]
      refine ⟨fun z => absurd z (by omega), fun _ => HP _ (fun h2 f2 g2 => ?_) h _ Fr.rf g⟩
      have k1 := k h2 f2 g2
      rw [show (pp 0 0).toNat = i by omega] at k1
      exact k1
    | succ j ih =>
      intro i hij y4
      have G := ih (i + 1) (by omega)
      rw [s_do_succ] at G
      generalize s_do (fun w => s_df (s_ow pp ss w) 4) i x = x1 at G ⊢
      refine v126_33 ?_
      simp only [g.t0, g.f3, g.f8, g.f9, g.c.P.t, g.c.Q.t, true_and, g.c.nw]
      refine ⟨fun _ => ?_, fun z => absurd (show (i : Int) < pp 0 0 by omega) z⟩
      suffices H2 : ∀ j2 : Nat, ∀ i2 : Nat, i2 + j2 = 4 → WP (d + 8) 126 (47, [(2, 0), (1, s_df (s_ow pp ss (i : Int)) i2 x1), (8, 0), (0, (i : Int)), (0, (i2 : Int))], [], h, 0, 0) K from H2 4 0 rfl
      intro j2
      induction j2 with
      | zero =>
        intro i2 hi2
        refine v126_47 ⟨fun _ => ?_, fun z => absurd (show (3 : Int) < (i2 : Int) by omega) z⟩
        rw [w32_nat (by omega), show i2 = 4 by omega]
        exact G _
      | succ j2 ih2 =>
        intro i2 hi2
        have G2 := ih2 (i2 + 1) (by omega)
        refine v126_47 ⟨fun z => absurd z (by omega), fun _ => ?_⟩
        simp only [g.t0, g.f3, g.f8, g.f9, g.c.P.t, g.c.Q.t, true_and]
        refine c53 g.c (by omega) (by omega) ?_
        show WP _ _ _ _
        rw [w32_nat (by omega)]
        exact G2
  refine v126 ?_
  suffices H : ∀ j : Nat, ∀ i : Nat, i + j = 12 → WP (d + 8) 126 (6, [(2, 0), (1, s_df (s_ct pp ss tl) i 881), (8, 0), (0, (i : Int)), (9, 0)], [], h, 0, 0) K from H 12 0 rfl
  intro j
  induction j with
  | zero =>
    intro i hij
    refine v126_6 ⟨fun _ => ?_, fun z => absurd (show (11 : Int) < (i : Int) by omega) z⟩
    rw [show i = 12 by omega]
    exact HW _ k _
  | succ j ih =>
    intro i hij
    have G := ih (i + 1) (by omega)
    refine v126_6 ⟨fun z => absurd z (by omega), fun _ => ⟨g.t0, c108 g (by omega) (by omega) ?_⟩⟩
    show WP _ _ _ _
    rw [w32_nat (by omega)]
    exact G
