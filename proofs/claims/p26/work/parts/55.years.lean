/-! ===== years, whole ===== -/
theorem year_bt {pp ss : TT} {tt : Int → List Op} {lo : Int} (hI : PI pp) (hS : SI pp (s_p1 pp tt lo ss)) : ∀ p, 0 ≤ p → p < pp 1 0 → s_year pp tt lo ss 7 p < s_year pp tt lo ss 0 0 := fun p h0 h1 => by
  have hb := (hS.built h0 h1).2
  rw [s_p1_0 hI] at hb
  rw [s_year_0]
  have e7 : s_year pp tt lo ss 7 p = s_p1 pp tt lo ss 7 p := su_ne (by omega)
  rw [e7]
  omega
theorem year_SI {pp ss : TT} {tt : Int → List Op} {lo : Int} (hI : PI pp) (hS : SI pp (s_p1 pp tt lo ss)) (hy : ss 0 0 + 1 < 2000000000) : SI pp (s_year pp tt lo ss) := by
  have yr := hS.yr
  rw [s_p1_0 hI] at yr
  refine hS.u0 ⟨by omega, hy⟩ (fun p h0 h1 => ?_)
  have hb := (hS.built h0 h1).2
  rw [s_p1_0 hI] at hb
  omega
theorem c66 {d : Nat} {h : AH} {a q lo n : Int} {pp ss : TT} {tt : Int → List Op} {K : AK} (c : CC h a q pp ss) (e2 : am_m h a 2 = lo) (ct : CT h q pp tt) (hn : 0 ≤ n) (hy : ss 0 0 + n < 2000000000) (hb : ∀ p, 0 ≤ p → p < pp 1 0 → ss 7 p < ss 0 0) (k : ∀ h2, Fr a 9 h h2 → CC h2 a q pp (s_ys pp tt lo n.toNat ss) → am_m h2 a 2 = lo → (∀ p, 0 ≤ p → p < pp 1 0 → s_ys pp tt lo n.toNat ss 7 p < s_ys pp tt lo n.toNat ss 0 0) → K 0 0 h2) : am_call (d + 8) 66 [(2, a), (0, n)] h K := by
  refine v66 ?_
  have ap := c.ap
  have y0 := c.S.yr
  suffices H : ∀ j : Nat, ∀ i : Nat, i + j = n.toNat → ∀ h1 s1, Fr a 9 h h1 → CC h1 a q pp s1 → am_m h1 a 2 = lo → CT h1 q pp tt → s1 0 0 = ss 0 0 + (i : Int) → (∀ p, 0 ≤ p → p < pp 1 0 → s1 7 p < s1 0 0) → s_ys pp tt lo j s1 = s_ys pp tt lo n.toNat ss → WP (d + 8) 66 (2, [(2, a), (0, n), (0, (i : Int))], [], h1, 0, 0) K from H _ 0 (Nat.zero_add _) h ss Fr.rf c e2 ct (by omega) hb rfl
  intro j
  induction j with
  | zero =>
    intro i hij h1 s1 f c e2 ct ey hb e
    refine v66_2 ?_
    refine ⟨fun z => absurd z (by omega), fun _ => ?_⟩
    have k1 := k h1 f
    rw [← e] at k1
    exact k1 c e2 hb
  | succ j ih =>
    intro i hij h1 s1 f c e2 ct ey hb e
    have hI := c.I
    refine v66_2 ⟨fun _ => ⟨c.P.t, c67 c e2 hb (fun h2 f2 c2 cy2 => ⟨c2.P.t, c68 c2 cy2 (ct.fr c.Q f2 ap) (fun h3 f3 c3 cy3 => ⟨c3.P.t, c73 c3 cy3 (ct.fr c.Q (f2.tr f3) ap) (fun h4 f4 c4 cy4 => ⟨c4.P.t, c76 c4 cy4.1 (fun h5 f5 c5 e5 => ?_)⟩)⟩)⟩)⟩, fun z => absurd (show (i : Int) < n by omega) z⟩
    have c6 : CC h5 a q pp (s_p1 pp tt lo s1) := c5
    have q0 := s_p1_0 (ss := s1) (tt := tt) (lo := lo) hI
    show _ ∧ _
    simp only [c6.P.t, c6.P.f5, c6.P.f3, c6.P.t1, c6.P.l1, c6.P.f4, c6.P.t2, c6.P.l2, c6.P.f8, c6.P.t3, c6.P.l3, c6.P.f9, c6.P.t4, c6.P.l4, c6.P.f10, c6.P.t5, c6.P.l5, c6.P.f11, c6.P.t6, c6.P.l6, c6.P.f12, c6.P.t7, c6.P.l7, c6.P.f13, c6.P.t8, c6.P.l8, c6.Q.t, c6.Q.f6, c6.Q.t1, c6.Q.l1, c6.Q.f7, c6.Q.t2, c6.Q.l2, c6.Q.f8, c6.Q.t3, c6.Q.l3, c6.Q.f9, c6.Q.t4, c6.Q.l4, c6.Q.f10, c6.Q.t5, c6.Q.l5, c6.Q.f11, c6.Q.t6, c6.Q.l6, c6.Q.f12, c6.Q.t7, c6.Q.l7, c6.Q.f13, c6.Q.t8, c6.Q.l8, c6.Q.f14, c6.Q.t9, c6.Q.l9, c6.nw, c6.np, c6.nv, c6.nb, c6.yr, c6.bud, c6.pot, c6.pd, q0, true_and]
    rw [w32_id (x := s1 0 0 + 1) (by omega) (by omega), w32_nat (by omega)]
    have ff : Fr a 9 h1 (am_w h5 a 0 (s1 0 0 + 1)) := (f2.tr (f3.tr (f4.tr f5))).w (by omega) (by omega)
    have ys := year_SI hI c6.S (by omega)
    refine ih (i + 1) (by omega) _ (s_year pp tt lo s1) (f.tr ff) (c6.u0 ys) ?_ (ct.fr c.Q ff ap) ?_ (year_bt hI c6.S) e
    · rw [am_m_w, if_neg (by omega)]
      exact e5
    · rw [s_year_0]
      omega
theorem b2_mono {pp : TT} {tt : Int → List Op} {lo : Int} (hI : PI pp) : ∀ (n : Nat) {s1 : TT}, SI pp s1 → s_bc pp s1 ≤ s_bc pp (s_b2 pp tt lo n s1) := by
  intro n
  induction n with
  | zero => exact fun _ => Int.le_refl _
  | succ n ih =>
    intro s1 hS
    by_cases z : s_nx pp s1 tt lo = -1
    · rw [show s_b2 pp tt lo (n + 1) s1 = s1 from if_pos z]
      exact Int.le_refl _
    · obtain ⟨r0, r1, r7, rs⟩ := (nx_rg (ss := s1) (tt := tt) (lo := lo) hI).resolve_left z
      rw [show s_b2 pp tt lo (n + 1) s1 = s_b2 pp tt lo n (s_buy pp s1 (s_nx pp s1 tt lo)) from if_neg z]
      have bb := bc_buy hI hS r0 r1 r7 rs
      have h2 : SI pp (s_buy pp s1 (s_nx pp s1 tt lo)) := ((SI.bf hI hS r0 r1 rs (s_tg pp s1 (s_nx pp s1 tt lo) (s_sh pp s1 (s_nx pp s1 tt lo)) - s1 6 (s_nx pp s1 tt lo)) _ (Nat.le_refl _)).u8 (i := s_nx pp s1 tt lo) (v := 1) (Or.inr rfl)).bld
      have := ih h2
      omega