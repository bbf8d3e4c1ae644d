/-! ===== which one is bought next ===== -/
noncomputable def s_be (pp ss : TT) (tt : Int → List Op) (lo : Int) (r : Int × Int) (p : Int) : Bool := s_rm pp ss lo p && (!(s_bn pp ss tt p) && (decide (s_sh pp ss p ≠ -1) && (decide (r.1 = -1) || (decide (s_sh pp ss p < r.2) || (decide (s_sh pp ss p = r.2) && decide (s_nf pp ss r.1 < s_nf pp ss p))))))
noncomputable def nxt (pp ss : TT) (tt : Int → List Op) (lo : Int) : Nat → Int × Int
  | 0 => (-1, 0)
  | n + 1 => if s_be pp ss tt lo (nxt pp ss tt lo n) (n : Int) = true then ((n : Int), s_sh pp ss (n : Int)) else nxt pp ss tt lo n
noncomputable def s_nx (pp ss : TT) (tt : Int → List Op) (lo : Int) : Int := (nxt pp ss tt lo (pp 1 0).toNat).1
theorem nxt_succ {pp ss : TT} {tt : Int → List Op} {lo : Int} {n : Nat} : nxt pp ss tt lo (n + 1) = if s_be pp ss tt lo (nxt pp ss tt lo n) (n : Int) = true then ((n : Int), s_sh pp ss (n : Int)) else nxt pp ss tt lo n := rfl
theorem nxt_rg {pp ss : TT} {tt : Int → List Op} {lo : Int} : ∀ n : Nat, (nxt pp ss tt lo n).1 = -1 ∨ (0 ≤ (nxt pp ss tt lo n).1 ∧ (nxt pp ss tt lo n).1 < (n : Int) ∧ s_rm pp ss lo (nxt pp ss tt lo n).1 = true ∧ s_bn pp ss tt (nxt pp ss tt lo n).1 = false ∧ s_sh pp ss (nxt pp ss tt lo n).1 ≠ -1)
  | 0 => Or.inl rfl
  | n + 1 => by
    have ih := nxt_rg (pp := pp) (ss := ss) (tt := tt) (lo := lo) n
    rw [nxt_succ]
    split
    · rename_i hz
      right
      unfold s_be at hz
      simp only [Bool.and_eq_true, Bool.not_eq_true', decide_eq_true_eq] at hz
      refine ⟨by simp, by simp; omega, hz.1, hz.2.1, hz.2.2.1⟩
    · rcases ih with ih | ih
      · exact Or.inl ih
      · right
        refine ⟨ih.1, by omega, ih.2.2⟩
theorem c69 {d : Nat} {h : AH} {a q lo : Int} {pp ss : TT} {tt : Int → List Op} {K : AK} (c : CC h a q pp ss) (cy : CY h a pp ss lo) (ct : CT h q pp tt) (k : ∀ h2, Fs a h h2 → CC h2 a q pp ss → K 0 (s_nx pp ss tt lo) h2) : am_call (d + 6) 69 [(2, a)] h K := by
  refine v69 ?_
  have np := c.I.np
  have c0 := c
  suffices H : ∀ j : Nat, ∀ i : Nat, i + j = (pp 1 0).toNat → ∀ h1 y4 y5, Fs a h h1 → CC h1 a q pp ss → WP (d + 6) 69 (6, [(2, a), (0, (nxt pp ss tt lo i).1), (0, (nxt pp ss tt lo i).2), (0, (i : Int)), y4, y5], [], h1, 0, 0) K from H _ 0 (Nat.zero_add _) h _ _ Fs.rf c
  intro j
  induction j with
  | zero =>
    intro i hij h1 y4 y5 f1 c
    refine v69_6 ?_
    simp only [c.P.t, c.P.f5, c.P.f3, c.P.t1, c.P.l1, c.P.f4, c.P.t2, c.P.l2, c.P.f8, c.P.t3, c.P.l3, c.P.f9, c.P.t4, c.P.l4, c.P.f10, c.P.t5, c.P.l5, c.P.f11, c.P.t6, c.P.l6, c.P.f12, c.P.t7, c.P.l7, c.P.f13, c.P.t8, c.P.l8, c.Q.t, c.Q.f6, c.Q.t1, c.Q.l1, c.Q.f7, c.Q.t2, c.Q.l2, c.Q.f8, c.Q.t3, c.Q.l3, c.Q.f9, c.Q.t4, c.Q.l4, c.Q.f10, c.Q.t5, c.Q.l5, c.Q.f11, c.Q.t6, c.Q.l6, c.Q.f12, c.Q.t7, c.Q.l7, c.Q.f13, c.Q.t8, c.Q.l8, c.Q.f14, c.Q.t9, c.Q.l9, c.nw, c.np, c.nv, c.nb, c.yr, c.bud, c.pot, c.pd, true_and]
    refine ⟨fun z => absurd z (by omega), fun _ => ?_⟩
    have kq := k h1 f1 c
    unfold s_nx at kq
    rw [show (pp 1 0).toNat = i by omega] at kq
    exact kq
  | succ j ih =>
    intro i hij h1 y4 y5 f1 c
    have rg := nxt_rg (pp := pp) (ss := ss) (tt := tt) (lo := lo) i
    have stay : ∀ h2 y4 y5, Fs a h h2 → CC h2 a q pp ss → s_be pp ss tt lo (nxt pp ss tt lo i) (i : Int) = false → WP (d + 6) 69 (6, [(2, a), (0, (nxt pp ss tt lo i).1), (0, (nxt pp ss tt lo i).2), (0, w32 ((i : Int) + 1)), y4, y5], [], h2, 0, 0) K := fun h2 y4 y5 f2 c2 hb => by
      have := ih (i + 1) (by omega) h2 y4 y5 f2 c2
      rw [nxt_succ, hb] at this
      rw [w32_nat (by omega)]
      exact this
    have take : ∀ h2 y4 y5, Fs a h h2 → CC h2 a q pp ss → s_be pp ss tt lo (nxt pp ss tt lo i) (i : Int) = true → WP (d + 6) 69 (6, [(2, a), (0, (i : Int)), (0, s_sh pp ss (i : Int)), (0, w32 ((i : Int) + 1)), y4, y5], [], h2, 0, 0) K := fun h2 y4 y5 f2 c2 hb => by
      have := ih (i + 1) (by omega) h2 y4 y5 f2 c2
      rw [nxt_succ, hb] at this
      rw [w32_nat (by omega)]
      exact this
    generalize nxt pp ss tt lo i = r at rg stay take ⊢
    obtain ⟨r1, r2⟩ := r
    dsimp only at rg stay take ⊢
    have s3 := c.P.t
    refine v69_6 ?_
    simp only [c.P.t, c.P.f5, c.P.f3, c.P.t1, c.P.l1, c.P.f4, c.P.t2, c.P.l2, c.P.f8, c.P.t3, c.P.l3, c.P.f9, c.P.t4, c.P.l4, c.P.f10, c.P.t5, c.P.l5, c.P.f11, c.P.t6, c.P.l6, c.P.f12, c.P.t7, c.P.l7, c.P.f13, c.P.t8, c.P.l8, c.Q.t, c.Q.f6, c.Q.t1, c.Q.l1, c.Q.f7, c.Q.t2, c.Q.l2, c.Q.f8, c.Q.t3, c.Q.l3, c.Q.f9, c.Q.t4, c.Q.l4, c.Q.f10, c.Q.t5, c.Q.l5, c.Q.f11, c.Q.t6, c.Q.l6, c.Q.f12, c.Q.t7, c.Q.l7, c.Q.f13, c.Q.t8, c.Q.l8, c.Q.f14, c.Q.t9, c.Q.l9, c.nw, c.np, c.nv, c.nb, c.yr, c.bud, c.pot, c.pd, true_and]
    refine ⟨fun _ => c70 c (cy.fs f1) (by omega) (by omega) ?_, fun z => absurd (show (i : Int) < pp 1 0 by omega) z⟩
    cases hr : s_rm pp ss lo (i : Int) with
    | false => exact ⟨fun _ => stay h1 _ _ f1 c (by unfold s_be; rw [hr]; rfl), fun z => absurd rfl z⟩
    | true =>
      refine ⟨fun z => absurd z (by decide), fun _ => ⟨s3, c62 c (by omega) (by omega) ?_⟩⟩
      have bann : ∀ h2 y4 y5, Fs a h h2 → CC h2 a q pp ss → (s_sh pp ss (i : Int) ≠ -1) → (r1 = -1 ∨ (s_sh pp ss (i : Int) < r2 ∨ (s_sh pp ss (i : Int) = r2 ∧ s_nf pp ss r1 < s_nf pp ss (i : Int)))) → am_call (d + 5) 77 [(2, a), (0, (i : Int))] h2 (fun x v hh => am_okx x (((v = 0) → WP (d + 6) 69 (6, [(2, a), (0, (i : Int)), (0, s_sh pp ss (i : Int)), (0, w32 ((i : Int) + 1)), y4, y5], [], hh, 0, 0) K) ∧ (¬ (v = 0) → WP (d + 6) 69 (6, [(2, a), (0, r1), (0, r2), (0, w32 ((i : Int) + 1)), y4, y5], [], hh, 0, 0) K))) := fun h2 y4 y5 f2 c2 hs hb =>
        c77 c2 (ct.fr c0.Q f2.fr c0.ap) (fun h3 f3 c3 => by
          cases hbn : s_bn pp ss tt (i : Int) with
          | true => exact ⟨fun z => absurd z (by decide), fun _ => stay h3 _ _ (f2.tr f3) c3 (by unfold s_be; rw [hr, hbn]; rfl)⟩
          | false =>
            refine ⟨fun _ => take h3 _ _ (f2.tr f3) c3 ?_, fun z => absurd rfl z⟩
            unfold s_be
            rw [hr, hbn]
            simp only [Bool.not_false, Bool.true_and, Bool.and_eq_true, Bool.or_eq_true, decide_eq_true_eq]
            exact ⟨hs, hb⟩)
      refine ⟨fun z1 => ⟨fun _ => stay h1 _ _ f1 c (by unfold s_be; simp [z1]), fun z => absurd trivial z⟩, fun z1 => ⟨fun z2 => ⟨fun z => absurd z (by decide), fun _ => ⟨s3, bann h1 _ _ f1 c z1 (Or.inl z2)⟩⟩, fun z2 => ⟨fun z3 => ⟨fun z => absurd z (by decide), fun _ => ⟨s3, bann h1 _ _ f1 c z1 (Or.inr (Or.inl z3))⟩⟩, fun z3 => ⟨fun z4 => ⟨s3, c60 c (by omega) (by omega) ⟨s3, c60 c (by omega) (by omega) ⟨fun z5 => ⟨fun z => absurd z (by decide), fun _ => ⟨s3, bann h1 _ _ f1 c z1 (Or.inr (Or.inr ⟨z4, z5⟩))⟩⟩, fun z5 => ⟨fun _ => stay h1 _ _ f1 c (by unfold s_be; simp [z2, z4, z5] <;> omega), fun z => absurd trivial z⟩⟩⟩⟩, fun z4 => ⟨fun _ => stay h1 _ _ f1 c (by unfold s_be; simp [z2, z3, z4]), fun z => absurd trivial z⟩⟩⟩⟩⟩