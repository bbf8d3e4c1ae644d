/-! ===== which one is built out of the pot next ===== -/
noncomputable def s_pe (pp ss : TT) (tt : Int → List Op) (lo r p : Int) : Bool := s_rm pp ss lo p && (!(s_bn pp ss tt p) && (decide (ss 6 p ≤ ss 2 0) && (decide (r = -1) || (decide (s_nf pp ss r < s_nf pp ss p) || (decide (s_nf pp ss p = s_nf pp ss r) && decide (ss 6 p < ss 6 r))))))
noncomputable def pxt (pp ss : TT) (tt : Int → List Op) (lo : Int) : Nat → Int
  | 0 => -1
  | n + 1 => if s_pe pp ss tt lo (pxt pp ss tt lo n) (n : Int) = true then (n : Int) else pxt pp ss tt lo n
noncomputable def s_px (pp ss : TT) (tt : Int → List Op) (lo : Int) : Int := pxt pp ss tt lo (pp 1 0).toNat
theorem pxt_succ {pp ss : TT} {tt : Int → List Op} {lo : Int} {n : Nat} : pxt pp ss tt lo (n + 1) = if s_pe pp ss tt lo (pxt pp ss tt lo n) (n : Int) = true then (n : Int) else pxt pp ss tt lo n := rfl
theorem pxt_rg {pp ss : TT} {tt : Int → List Op} {lo : Int} : ∀ n : Nat, pxt pp ss tt lo n = -1 ∨ (0 ≤ pxt pp ss tt lo n ∧ pxt pp ss tt lo n < (n : Int) ∧ s_rm pp ss lo (pxt pp ss tt lo n) = true ∧ ss 6 (pxt pp ss tt lo n) ≤ ss 2 0)
  | 0 => Or.inl rfl
  | n + 1 => by
    have ih := pxt_rg (pp := pp) (ss := ss) (tt := tt) (lo := lo) n
    rw [pxt_succ]
    split
    · rename_i hz
      right
      unfold s_pe at hz
      simp only [Bool.and_eq_true, Bool.not_eq_true', decide_eq_true_eq] at hz
      refine ⟨by omega, by omega, hz.1, hz.2.2.1⟩
    · rcases ih with ih | ih
      · exact Or.inl ih
      · right
        refine ⟨ih.1, by omega, ih.2.2⟩
theorem c75 {d : Nat} {h : AH} {a q p r : Int} {pp ss : TT} {K : AK} (c : CC h a q pp ss) (h0 : 0 ≤ p) (h1 : p < pp 1 0) (r0 : 0 ≤ r) (r1 : r < pp 1 0) (k : K 0 (if (decide (s_nf pp ss r < s_nf pp ss p) || (decide (s_nf pp ss p = s_nf pp ss r) && decide (ss 6 p < ss 6 r))) = true then 1 else 0) h) : am_call (d + 2) 75 [(2, a), (0, p), (0, r)] h K := by
  have np := c.I.np
  have s3 := c.P.t
  have e1 := c.cost h0 h1
  have e2 := c.cost r0 r1
  refine v75 ⟨s3, c60 c h0 h1 ⟨s3, c60 c r0 r1 ⟨fun z => ?_, fun z => ⟨s3, c60 c h0 h1 ⟨s3, c60 c r0 r1 ⟨fun z2 => ?_, fun z2 => ?_⟩⟩⟩⟩⟩⟩
  · simp only [c.P.t, c.P.f5, c.P.f3, c.P.t1, c.P.l1, c.P.f4, c.P.t2, c.P.l2, c.P.f8, c.P.t3, c.P.l3, c.P.f9, c.P.t4, c.P.l4, c.P.f10, c.P.t5, c.P.l5, c.P.f11, c.P.t6, c.P.l6, c.P.f12, c.P.t7, c.P.l7, c.P.f13, c.P.t8, c.P.l8, c.Q.t, c.Q.f6, c.Q.t1, c.Q.l1, c.Q.f7, c.Q.t2, c.Q.l2, c.Q.f8, c.Q.t3, c.Q.l3, c.Q.f9, c.Q.t4, c.Q.l4, c.Q.f10, c.Q.t5, c.Q.l5, c.Q.f11, c.Q.t6, c.Q.l6, c.Q.f12, c.Q.t7, c.Q.l7, c.Q.f13, c.Q.t8, c.Q.l8, c.Q.f14, c.Q.t9, c.Q.l9, c.nw, c.np, c.nv, c.nb, c.yr, c.bud, c.pot, c.pd, e1, e2, true_and]
    refine ⟨⟨h0, by omega⟩, ⟨r0, by omega⟩, fun z2 => ⟨Or.inr trivial, ?_⟩, fun z2 => ⟨Or.inl trivial, ?_⟩⟩
    · rw [if_pos (by simp [z, z2])] at k
      exact k
    · rw [if_neg (by simp [z, z2])] at k
      exact k
  · rw [if_pos (by simp [z2])] at k
    exact ⟨Or.inr rfl, k⟩
  · rw [if_neg (by simp [z, z2])] at k
    exact ⟨Or.inl rfl, k⟩
theorem c74 {d : Nat} {h : AH} {a q lo : Int} {pp ss : TT} {tt : Int → List Op} {K : AK} (c : CC h a q pp ss) (cy : CY h a pp ss lo) (ct : CT h q pp tt) (k : ∀ h2, Fs a h h2 → CC h2 a q pp ss → K 0 (s_px pp ss tt lo) h2) : am_call (d + 6) 74 [(2, a)] h K := by
  refine v74 ?_
  have np := c.I.np
  have c0 := c
  suffices H : ∀ j : Nat, ∀ i : Nat, i + j = (pp 1 0).toNat → ∀ h1, Fs a h h1 → CC h1 a q pp ss → WP (d + 6) 74 (4, [(2, a), (0, pxt pp ss tt lo i), (0, (i : Int))], [], h1, 0, 0) K from H _ 0 (Nat.zero_add _) h Fs.rf c
  intro j
  induction j with
  | zero =>
    intro i hij h1 f1 c
    refine v74_4 ?_
    simp only [c.P.t, c.P.f5, c.P.f3, c.P.t1, c.P.l1, c.P.f4, c.P.t2, c.P.l2, c.P.f8, c.P.t3, c.P.l3, c.P.f9, c.P.t4, c.P.l4, c.P.f10, c.P.t5, c.P.l5, c.P.f11, c.P.t6, c.P.l6, c.P.f12, c.P.t7, c.P.l7, c.P.f13, c.P.t8, c.P.l8, c.Q.t, c.Q.f6, c.Q.t1, c.Q.l1, c.Q.f7, c.Q.t2, c.Q.l2, c.Q.f8, c.Q.t3, c.Q.l3, c.Q.f9, c.Q.t4, c.Q.l4, c.Q.f10, c.Q.t5, c.Q.l5, c.Q.f11, c.Q.t6, c.Q.l6, c.Q.f12, c.Q.t7, c.Q.l7, c.Q.f13, c.Q.t8, c.Q.l8, c.Q.f14, c.Q.t9, c.Q.l9, c.nw, c.np, c.nv, c.nb, c.yr, c.bud, c.pot, c.pd, true_and]
    refine ⟨fun z => absurd z (by omega), fun _ => ?_⟩
    have kq := k h1 f1 c
    unfold s_px at kq
    rw [show (pp 1 0).toNat = i by omega] at kq
    exact kq
  | succ j ih =>
    intro i hij h1 f1 c
    have rg := pxt_rg (pp := pp) (ss := ss) (tt := tt) (lo := lo) i
    have e1 := c.cost (i := (i : Int)) (by omega) (by omega)
    have stay : ∀ h2, Fs a h h2 → CC h2 a q pp ss → s_pe pp ss tt lo (pxt pp ss tt lo i) (i : Int) = false → WP (d + 6) 74 (4, [(2, a), (0, pxt pp ss tt lo i), (0, w32 ((i : Int) + 1))], [], h2, 0, 0) K := fun h2 f2 c2 hb => by
      have := ih (i + 1) (by omega) h2 f2 c2
      rw [pxt_succ, hb] at this
      rw [w32_nat (by omega)]
      exact this
    have take : ∀ h2, Fs a h h2 → CC h2 a q pp ss → s_pe pp ss tt lo (pxt pp ss tt lo i) (i : Int) = true → WP (d + 6) 74 (4, [(2, a), (0, (i : Int)), (0, w32 ((i : Int) + 1))], [], h2, 0, 0) K := fun h2 f2 c2 hb => by
      have := ih (i + 1) (by omega) h2 f2 c2
      rw [pxt_succ, hb] at this
      rw [w32_nat (by omega)]
      exact this
    generalize pxt pp ss tt lo i = r at rg stay take ⊢
    have s3 := c.P.t
    refine v74_4 ?_
    simp only [c.P.t, c.P.f5, c.P.f3, c.P.t1, c.P.l1, c.P.f4, c.P.t2, c.P.l2, c.P.f8, c.P.t3, c.P.l3, c.P.f9, c.P.t4, c.P.l4, c.P.f10, c.P.t5, c.P.l5, c.P.f11, c.P.t6, c.P.l6, c.P.f12, c.P.t7, c.P.l7, c.P.f13, c.P.t8, c.P.l8, c.Q.t, c.Q.f6, c.Q.t1, c.Q.l1, c.Q.f7, c.Q.t2, c.Q.l2, c.Q.f8, c.Q.t3, c.Q.l3, c.Q.f9, c.Q.t4, c.Q.l4, c.Q.f10, c.Q.t5, c.Q.l5, c.Q.f11, c.Q.t6, c.Q.l6, c.Q.f12, c.Q.t7, c.Q.l7, c.Q.f13, c.Q.t8, c.Q.l8, c.Q.f14, c.Q.t9, c.Q.l9, c.nw, c.np, c.nv, c.nb, c.yr, c.bud, c.pot, c.pd, true_and]
    refine ⟨fun _ => c70 c (cy.fs f1) (by omega) (by omega) ?_, fun z => absurd (show (i : Int) < pp 1 0 by omega) z⟩
    cases hr : s_rm pp ss lo (i : Int) with
    | false => exact ⟨fun _ => stay h1 f1 c (by unfold s_pe; rw [hr]; rfl), fun z => absurd rfl z⟩
    | true =>
      refine ⟨fun z => absurd z (by decide), fun _ => ?_⟩
      simp only [c.P.t, c.P.f5, c.P.f3, c.P.t1, c.P.l1, c.P.f4, c.P.t2, c.P.l2, c.P.f8, c.P.t3, c.P.l3, c.P.f9, c.P.t4, c.P.l4, c.P.f10, c.P.t5, c.P.l5, c.P.f11, c.P.t6, c.P.l6, c.P.f12, c.P.t7, c.P.l7, c.P.f13, c.P.t8, c.P.l8, c.Q.t, c.Q.f6, c.Q.t1, c.Q.l1, c.Q.f7, c.Q.t2, c.Q.l2, c.Q.f8, c.Q.t3, c.Q.l3, c.Q.f9, c.Q.t4, c.Q.l4, c.Q.f10, c.Q.t5, c.Q.l5, c.Q.f11, c.Q.t6, c.Q.l6, c.Q.f12, c.Q.t7, c.Q.l7, c.Q.f13, c.Q.t8, c.Q.l8, c.Q.f14, c.Q.t9, c.Q.l9, c.nw, c.np, c.nv, c.nb, c.yr, c.bud, c.pot, c.pd, e1, true_and]
      have bann : ∀ h2, Fs a h h2 → CC h2 a q pp ss → ss 6 (i : Int) ≤ ss 2 0 → (r = -1 ∨ (s_nf pp ss r < s_nf pp ss (i : Int) ∨ (s_nf pp ss (i : Int) = s_nf pp ss r ∧ ss 6 (i : Int) < ss 6 r))) → am_call (d + 5) 77 [(2, a), (0, (i : Int))] h2 (fun x v hh => am_okx x (((v = 0) → WP (d + 6) 74 (4, [(2, a), (0, (i : Int)), (0, w32 ((i : Int) + 1))], [], hh, 0, 0) K) ∧ (¬ (v = 0) → WP (d + 6) 74 (4, [(2, a), (0, r), (0, w32 ((i : Int) + 1))], [], hh, 0, 0) K))) := fun h2 f2 c2 hs hb =>
        c77 c2 (ct.fr c0.Q f2.fr c0.ap) (fun h3 f3 c3 => by
          cases hbn : s_bn pp ss tt (i : Int) with
          | true => exact ⟨fun z => absurd z (by decide), fun _ => stay h3 (f2.tr f3) c3 (by unfold s_pe; rw [hr, hbn]; rfl)⟩
          | false =>
            refine ⟨fun _ => take h3 (f2.tr f3) c3 ?_, fun z => absurd rfl z⟩
            unfold s_pe
            rw [hr, hbn]
            simp only [Bool.not_false, Bool.true_and, Bool.and_eq_true, Bool.or_eq_true, decide_eq_true_eq]
            exact ⟨hs, hb⟩)
      refine ⟨⟨by omega, by omega⟩, fun z1 => stay h1 f1 c (by unfold s_pe; simp; omega), fun z1 => ⟨fun z2 => bann h1 f1 c (by omega) (Or.inl z2), fun z2 => c75 c (by omega) (by omega) (by omega) (by omega) ?_⟩⟩
      cases hq : (decide (s_nf pp ss r < s_nf pp ss (i : Int)) || (decide (s_nf pp ss (i : Int) = s_nf pp ss r) && decide (ss 6 (i : Int) < ss 6 r))) with
      | false =>
        refine ⟨fun _ => stay h1 f1 c ?_, fun z => absurd rfl z⟩
        unfold s_pe
        rw [hq]
        simp [z2]
      | true =>
        refine ⟨fun z => absurd z (by decide), fun _ => ⟨s3, bann h1 f1 c (by omega) (Or.inr ?_)⟩⟩
        simpa using hq