/-! ===== from the list to the years: the second phase's begin ===== -/
/-- cells that the second phase keeps -/
def KS (o a v : Int) (lp : TT) (C P V W D : Int) (A B8 : Int → Int) (b : Int) : Prop := b = a ∨ b = v ∨ b = o ∨ b = C ∨ b = P ∨ b = V ∨ b = W ∨ b = D ∨ (∃ i, 0 ≤ i ∧ i < lp 1 0 ∧ b = A i) ∨ (∃ i, 0 ≤ i ∧ i < lp 2 0 ∧ (b = V + 1 + i ∨ b = W + 1 + i)) ∨ ∃ i, 0 ≤ i ∧ i < lp 3 0 ∧ b = B8 i
noncomputable def kpF (o a v : Int) (lp : TT) (C P V W D : Int) (A B8 : Int → Int) (b : Int) : Bool := @decide (KS o a v lp C P V W D A B8 b) (Classical.propDecidable _)
theorem kpF_t {o a v C P V W D b : Int} {lp : TT} {A B8 : Int → Int} : kpF o a v lp C P V W D A B8 b = true ↔ KS o a v lp C P V W D A B8 b := @decide_eq_true_iff _ (Classical.propDecidable _)
theorem rb_t {keep : Int → Bool} {h : AH} {b : Int} (k : keep b = true) : am_t (am_rb keep h) b = am_t h b := by
  show (match keep b with | true => h.1 b | false => 0) = _
  rw [k]
  rfl
theorem neg_v {h : AH} {b : Int} {t : Nat} (e : am_t h b = t) (ht : am_ft t = []) (h2 : ¬ (t = 24 ∨ t = 25)) : am_neg h b := by
  refine ⟨fun k hk => ?_, fun y => absurd y (by rw [e]; exact h2)⟩
  rw [e, ht] at hk
  cases hk
theorem neg_r {h : AH} {b : Int} {t : Nat} (e : am_t h b = t) (ht : am_ft t = []) (m : ∀ j : Int, 0 ≤ j → j < am_l h b → am_m h b j < 0) : am_neg h b := by
  refine ⟨fun k hk => ?_, fun _ j hj => m _ (by omega) hj⟩
  rw [e, ht] at hk
  cases hk
section
variable {c : Int → Int} {h : AH} {o a v C P V W D : Int} {A B8 : Int → Int}
theorem LG.neg (x : LG h o a v c C P V W D A B8) : ∀ b, KS o a v (lpF c) C P V W D A B8 b → b < am_n h ∧ b < 0 ∧ am_neg h b := by
  have g0 := x.g.g0
  have g1 := x.g.g1
  have g2 := x.g.g2
  have g3 := x.g.g3
  have g4 := x.g.g4
  have g5 := x.g5
  have hn := x.n
  have tb := x.tb
  have ta := tb.a1
  have tv := tb.v1
  have q0 := g0.q.1
  have q1 := g1.q.1.1
  have q2 := g2.q.1.1
  have q3 := g3.q.1
  have q4 := g4.q.1
  have q5 := g5.q.1
  have eb3 : lpF c 3 0 = nbF c := rfl
  intro b hb
  rcases hb with rfl | rfl | rfl | rfl | rfl | rfl | rfl | rfl | ⟨i, i0, i1, rfl⟩ | ⟨i, i0, i1, rfl | rfl⟩ | ⟨i, i0, i1, rfl⟩
  · refine ⟨ta, by omega, ?_, fun y => absurd y (by rw [tb.t]; decide)⟩
    intro k hk
    rw [tb.t] at hk
    match k, hk with
    | 0, _ => show am_m h b 0 < 0; rw [tb.v0]; omega
    | 1, hk => cases hk
    | 2, hk => cases hk
    | 3, hk => cases hk
    | n + 4, hk => cases hk
  · exact ⟨tv, by omega, neg_v tb.vt rfl (by decide)⟩
  · refine ⟨q0.2, by omega, ?_, fun y => absurd y (by rw [g0.t]; decide)⟩
    intro k hk
    rw [g0.t] at hk
    match k, hk with
    | 0, hk => cases hk
    | 1, hk => cases hk
    | 2, hk => cases hk
    | 3, hk => cases hk
    | 4, _ => show am_m h b 4 < 0; rw [g1.p]; omega
    | 5, _ => show am_m h b 5 < 0; rw [g2.p]; omega
    | 6, _ => show am_m h b 6 < 0; rw [g3.p]; omega
    | 7, _ => show am_m h b 7 < 0; rw [g4.p]; omega
    | 8, _ => show am_m h b 8 < 0; rw [g5.p]; omega
    | 9, hk => cases hk
    | n + 10, hk => cases hk
  · exact ⟨q1.2, by omega, neg_v g1.t rfl (by decide)⟩
  · refine ⟨q2.2, by omega, neg_r g2.t rfl (fun j j0 j1 => ?_)⟩
    rw [g2.l] at j1
    obtain ⟨m1, m2, m3, -⟩ := g2.m j j0 j1
    rw [m3]
    have := m1.1
    omega
  · refine ⟨q3.2, by omega, neg_r g3.t rfl (fun j j0 j1 => ?_)⟩
    rw [g3.l] at j1
    obtain ⟨m1, m2, m3, -⟩ := g3.m j j0 j1
    rw [m2]
    have := m1.1
    omega
  · refine ⟨q4.2, by omega, neg_r g4.t rfl (fun j j0 j1 => ?_)⟩
    rw [g4.l] at j1
    obtain ⟨m1, m2, m3, -⟩ := g4.m j j0 j1
    rw [m2]
    have := m1.1
    omega
  · refine ⟨q5.2, by omega, neg_r g5.t rfl (fun j j0 j1 => ?_)⟩
    rw [g5.l] at j1
    obtain ⟨m1, m2, m3, -⟩ := g5.m j j0 (by omega)
    rw [m3]
    have := m1.1
    omega
  · obtain ⟨m1, m2, m3, m4, -⟩ := g2.m i i0 i1
    have := m1.1
    exact ⟨this.2, by omega, neg_v m4 rfl (by decide)⟩
  · obtain ⟨m1, m2, m3, -⟩ := g3.m i i0 i1
    have := m1.1
    exact ⟨this.2, by omega, neg_v m3 rfl (by decide)⟩
  · obtain ⟨m1, m2, m3, -⟩ := g4.m i i0 i1
    have := m1.1
    exact ⟨this.2, by omega, neg_v m3 rfl (by decide)⟩
  · obtain ⟨m1, m2, m3, m4, -⟩ := g5.m i i0 (by omega)
    have := m1.1
    exact ⟨this.2, by omega, neg_v m4 rfl (by decide)⟩
theorem LG.rb (x : LG h o a v c C P V W D A B8) : SM (am_rb (kpF o a v (lpF c) C P V W D A B8) h) o (lsA C P V W D A B8) (lpF c) (s_bg (lpF c) 0) (bbF c) ∧ AO (lsA C P V W D A B8) (lpF c) o (fun b => -200000000 ≤ b ∧ b < 0) ∧ TB (am_rb (kpF o a v (lpF c) C P V W D A B8) h) a v (lbs (LL c)) := by
  obtain ⟨sm, ao⟩ := x.sm
  have hn := x.n
  have ng := x.neg
  have tb := x.tb
  have ka : ∀ b, KS o a v (lpF c) C P V W D A B8 b → am_t (am_rb (kpF o a v (lpF c) C P V W D A B8) h) b = am_t h b := fun b hb => rb_t (kpF_t.2 hb)
  have aoK : AO (lsA C P V W D A B8) (lpF c) o (KS o a v (lpF c) C P V W D A B8) := ⟨Or.inr (Or.inr (Or.inl rfl)), Or.inr (Or.inr (Or.inr (Or.inl rfl))), Or.inr (Or.inr (Or.inr (Or.inr (Or.inl rfl)))), Or.inr (Or.inr (Or.inr (Or.inr (Or.inr (Or.inl rfl))))), Or.inr (Or.inr (Or.inr (Or.inr (Or.inr (Or.inr (Or.inl rfl)))))), Or.inr (Or.inr (Or.inr (Or.inr (Or.inr (Or.inr (Or.inr (Or.inl rfl))))))), fun i i0 i1 => Or.inr (Or.inr (Or.inr (Or.inr (Or.inr (Or.inr (Or.inr (Or.inr (Or.inl ⟨i, i0, i1, rfl⟩)))))))), fun i i0 i1 => ⟨Or.inr (Or.inr (Or.inr (Or.inr (Or.inr (Or.inr (Or.inr (Or.inr (Or.inr (Or.inl ⟨i, i0, i1, Or.inl rfl⟩))))))))), Or.inr (Or.inr (Or.inr (Or.inr (Or.inr (Or.inr (Or.inr (Or.inr (Or.inr (Or.inl ⟨i, i0, i1, Or.inr rfl⟩)))))))))⟩, fun i i0 i1 => Or.inr (Or.inr (Or.inr (Or.inr (Or.inr (Or.inr (Or.inr (Or.inr (Or.inr (Or.inr ⟨i, i0, i1, rfl⟩)))))))))⟩
  refine ⟨sm.kp aoK (by show am_n h ≤ 0; omega) (fun b hb q => ⟨ka b q, rfl, fun _ => rfl⟩), ao.mono (fun b z => by omega), ?_⟩
  have k1 := ka a (Or.inl rfl)
  have k2 := ka v (Or.inr (Or.inl rfl))
  have n1 := (ng a (Or.inl rfl)).2.1
  have n2 := (ng v (Or.inr (Or.inl rfl))).2.1
  exact ⟨k1.trans tb.t, tb.v0, tb.c, tb.n, k2.trans tb.vt, tb.l1, tb.l2, n1, n2, tb.na, tb.nv, tb.av, tb.b⟩
end
/-! ===== the plan as the list has it, and as the jury read it ===== -/
theorem SM.cgp {h : AH} {a : Int} {A pp ss f s2 : TT} {bb : Int → Int → Int} (x : SM h a A pp ss bb) (hI : PI f) (hS : SI f s2) (e0 : f 0 0 = pp 0 0) (e1 : f 1 0 = pp 1 0) (e2 : f 2 0 = pp 2 0) (e3 : f 3 0 = pp 3 0) (e4 : ∀ w, 0 ≤ w → w < pp 0 0 → f 4 w = pp 4 w) (e5 : ∀ i, 0 ≤ i → i < pp 1 0 → f 5 i = pp 5 i ∧ f 6 i = pp 6 i ∧ s2 6 i = ss 6 i ∧ s2 7 i = ss 7 i ∧ s2 8 i = ss 8 i) (es : s2 0 0 = ss 0 0 ∧ s2 1 0 = ss 1 0 ∧ s2 2 0 = ss 2 0 ∧ s2 3 0 = ss 3 0) (ev : ∀ i, 0 ≤ i → i < pp 2 0 → s2 4 i = ss 4 i ∧ s2 5 i = ss 5 i) (el : ∀ i j, 0 ≤ i → i < pp 2 0 → 0 ≤ j → j < pp 1 0 → s2 9 (12 * i + j) = ss 9 (12 * i + j)) : SM h a A f s2 bb := by
  obtain ⟨es0, es1, es2, es3⟩ := es
  refine ⟨x.t, by rw [es0]; exact x.m0, by rw [es2]; exact x.m1, by rw [es3]; exact x.m2, by rw [es1]; exact x.m3, x.m4, x.m5, x.m6, x.m7, x.m8, x.m9, ?_, x.pt, by rw [e1]; exact x.pl, ?_, x.vt, by rw [e2]; exact x.vl, ?_, x.lt, by rw [e2]; exact x.ll, ?_, x.bt, by rw [e3]; exact x.bl, by rw [e3]; exact x.b, by rw [e3, e1]; exact x.br, hI, hS, by rw [e1, e2]; exact x.p1, by rw [e1, e2, e3]; exact x.nn, x.nr, by rw [e1, e2, e3]; exact x.bd, by rw [e1]; exact x.dp, by rw [e2]; exact x.dv, by rw [e2]; exact x.dl, by rw [e1, e2]; exact x.dpv, by rw [e1, e2]; exact x.dc, by rw [e1, e2, e3]; exact x.db⟩
  · obtain ⟨c1, c2, c3⟩ := x.caps
    rw [e0]
    exact ⟨c1, c2, fun w w0 w1 => (c3 w w0 w1).trans (e4 w w0 w1).symm⟩
  · rw [e1]
    intro i i0 i1
    obtain ⟨y1, y2, y3, y4, y5⟩ := e5 i i0 i1
    obtain ⟨p1, p2, p3, p4, p5, p6, p7, p8⟩ := x.p i i0 i1
    exact ⟨p1, p2, p3, p4.trans y3.symm, p5.trans y1.symm, p6.trans y2.symm, p7.trans y4.symm, p8.trans y5.symm⟩
  · rw [e2]
    intro i i0 i1
    obtain ⟨y1, y2⟩ := ev i i0 i1
    obtain ⟨p1, p2, p3, p4, p5⟩ := x.v i i0 i1
    exact ⟨p1, p2, p3, p4.trans y1.symm, p5.trans y2.symm⟩
  · rw [e2, e1]
    intro i i0 i1
    obtain ⟨p1, p2, p3, p4⟩ := x.l i i0 i1
    exact ⟨p1, p2, p3, fun j j0 j1 => (p4 j j0 j1).trans (el i j i0 i1 j0 j1).symm⟩
theorem AO.cg {A pp f : TT} {a : Int} {Q : Int → Prop} (o : AO A pp a Q) (e1 : f 1 0 = pp 1 0) (e2 : f 2 0 = pp 2 0) (e3 : f 3 0 = pp 3 0) : AO A f a Q := by
  obtain ⟨oa, o0, o1, o2, o3, o4, o5, o6, o8⟩ := o
  exact ⟨oa, o0, o1, o2, o3, o4, by rw [e1]; exact o5, by rw [e2]; exact o6, by rw [e3]; exact o8⟩
theorem oB_cg {pp f : TT} {b : Int → Int} (e1 : f 1 0 = pp 1 0) (e2 : f 2 0 = pp 2 0) : oB f b = oB pp b := by
  unfold oB
  rw [e1, e2]
