/-! ===== the tape cut into tokens ===== -/
/-- where token m begins -/
def s_st (tp : Int → Int) (ln : Int) : Nat → Int
  | 0 => s_sk tp ln 0
  | m + 1 => s_sk tp ln (s_one tp ln (s_st tp ln m)).2.1
def s_kd (tp : Int → Int) (ln : Int) (m : Nat) : Int := if s_st tp ln m < ln then (if m = 400 then 261 else (s_one tp ln (s_st tp ln m)).1) else 260
def s_va (tp : Int → Int) (ln : Int) (m : Nat) : Int := if s_st tp ln m < ln then (if m = 400 then 0 else (s_one tp ln (s_st tp ln m)).2.2.getD 0) else 0
/-- the last token -/
def s_en (tp : Int → Int) (ln : Int) (m : Nat) : Prop := m ≤ 400 ∧ (s_kd tp ln m = 260 ∨ s_kd tp ln m = 261) ∧ ∀ j, j < m → s_kd tp ln j ≠ 260 ∧ s_kd tp ln j ≠ 261
def TO (h : AH) (ln : Int) (tp : Int → Int) (m : Nat) : Prop := ∀ j : Nat, j < m → am_m h 23 (j : Int) = s_kd tp ln j ∧ am_m h 24 (j : Int) = s_va tp ln j ∧ am_m h 25 (j : Int) = s_st tp ln j
theorem TK.ro {h : AH} {ln po b i v : Int} {tp : Int → Int} (x : TK h ln po tp) (hb : b = 23 ∨ b = 24 ∨ b = 25) : TK (am_w h b i v) ln po tp := by
  have ee : ∀ c j, c ≠ b → am_m (am_w h b i v) c j = am_m h c j := fun c j hn => by rw [am_m_w, if_neg (fun y => hn y.1)]
  exact ⟨x.t, (ee _ _ (by omega)).trans x.f0, (ee _ _ (by omega)).trans x.f1, (ee _ _ (by omega)).trans x.f2, (ee _ _ (by omega)).trans x.f3, (ee _ _ (by omega)).trans x.f4, (ee _ _ (by omega)).trans x.f5, (ee _ _ (by omega)).trans x.f6, x.t0, x.l0, x.t1, x.l1, x.t2, x.l2, x.t3, x.l3, x.ta, x.la, x.n, x.lb, x.pb, fun j z1 z2 => (ee _ _ (by omega)).trans (x.tc j z1 z2), x.tr, fun j z1 z2 => (ee _ _ (by omega)).trans (x.kw j z1 z2)⟩
theorem c90 {d : Nat} {h : AH} {ln : Int} {tp : Int → Int} {K : AK} (x0 : TK (am_w (am_w h 22 5 ln) 22 6 0) ln 0 tp) (f4 : am_m h 22 4 = 1) (kk : ∀ h2 m po, Fr 22 5 h h2 → TK h2 ln po tp → s_en tp ln m → TO h2 ln tp (m + 1) → K 0 0 h2) : am_call (d + 6) 90 [(2, 22), (0, ln)] h K := by
  have lb := x0.lb
  have t : am_t h 22 = 5 := x0.t
  have ta : am_t h 1 = 21 := x0.ta
  have la : am_l h 1 = 2000 := x0.la
  refine v90 ?_
  simp only [t, f4, ta, la, true_and]
  rw [show min ln 2000 = ln by omega]
  refine ⟨⟨by decide, by decide⟩, v90_13 ⟨t, v90_18 ?_⟩⟩
  have f0 : Fr 22 5 h (am_w (am_w h 22 5 ln) 22 6 0) := (Fr.rf.w (by decide) (by decide)).w (by decide) (by decide)
  generalize am_w (am_w h 22 5 ln) 22 6 0 = g at x0 f0 ⊢
  suffices H : ∀ n : Nat, ∀ i : Nat, i + n = 400 → ∀ h1 po y1, Fr 22 5 h h1 → TK h1 ln po tp → s_sk tp ln po = s_st tp ln i → TO h1 ln tp i → (∀ j, j < i → s_kd tp ln j ≠ 260 ∧ s_kd tp ln j ≠ 261) → WP (d + 6) 90 (20, [(2, 22), y1, (0, (i : Int))], [], h1, 0, 0) K from H 400 0 rfl g 0 _ f0 x0 rfl (fun j hj => absurd hj (by omega)) (fun j hj => absurd hj (by omega))
  intro n
  have body : ∀ i : Nat, i ≤ 400 → ∀ h1 po y1, Fr 22 5 h h1 → TK h1 ln po tp → s_sk tp ln po = s_st tp ln i → TO h1 ln tp i → (∀ j, j < i → s_kd tp ln j ≠ 260 ∧ s_kd tp ln j ≠ 261) → (i < 400 → ∀ h2 po2, Fr 22 5 h h2 → TK h2 ln po2 tp → s_sk tp ln po2 = s_st tp ln (i + 1) → TO h2 ln tp (i + 1) → (∀ j, j < i + 1 → s_kd tp ln j ≠ 260 ∧ s_kd tp ln j ≠ 261) → WP (d + 6) 90 (20, [(2, 22), y1, (0, ((i + 1 : Nat) : Int))], [], h2, 0, 0) K) → WP (d + 6) 90 (20, [(2, 22), y1, (0, (i : Int))], [], h1, 0, 0) K := by
    intro i hi h1 po y1 f1 x es to ne nx
    refine v90_20 ⟨fun z => absurd z (by omega), fun _ => ⟨x.t, c92 x (fun h2 f2 e2 x2 => ?_)⟩⟩
    show WP _ _ _ _
    rw [es] at x2
    have to2 : TO h2 ln tp i := fun j hj => by
      rw [e2 _ _ (by omega), e2 _ _ (by omega), e2 _ _ (by omega)]
      exact to j hj
    have f12 := f1.tr f2
    refine v90_31 ?_
    simp only [x2.t, x2.f2, x2.f6, x2.t2, x2.l2, true_and]
    refine ⟨⟨by omega, by omega⟩, ?_⟩
    have x3 := x2.ro (b := 25) (i := (i : Int)) (v := s_st tp ln i) (by omega)
    refine v90_41 ?_
    simp only [x3.t, x3.f1, x3.t1, x3.l1, true_and]
    refine ⟨⟨by omega, by omega⟩, ?_⟩
    have x4 := x3.ro (b := 24) (i := (i : Int)) (v := 0) (by omega)
    have f4 : Fr 22 5 h (am_w (am_w h2 25 (i : Int) (s_st tp ln i)) 24 (i : Int) 0) := (f12.w (by decide) (by decide)).w (by decide) (by decide)
    have v4 : am_m (am_w (am_w h2 25 (i : Int) (s_st tp ln i)) 24 (i : Int) 0) 24 (i : Int) = 0 ∧ am_m (am_w (am_w h2 25 (i : Int) (s_st tp ln i)) 24 (i : Int) 0) 25 (i : Int) = s_st tp ln i := by
      refine ⟨by rw [am_m_w, if_pos ⟨rfl, rfl⟩], by rw [am_m_w, if_neg (by omega), am_m_w, if_pos ⟨rfl, rfl⟩]⟩
    have to4 : TO (am_w (am_w h2 25 (i : Int) (s_st tp ln i)) 24 (i : Int) 0) ln tp i := fun j hj => by
      rw [am_m_w, if_neg (by omega), am_m_w, if_neg (by omega), am_m_w, if_neg (by omega), am_m_w, if_neg (by omega), am_m_w, if_neg (by omega), am_m_w, if_neg (by omega)]
      exact to2 j hj
    generalize am_w (am_w h2 25 (i : Int) (s_st tp ln i)) 24 (i : Int) 0 = h4 at x4 f4 v4 to4 ⊢
    -- the kind is written, then looked at
    have last : ∀ h5 po5, Fr 22 5 h h5 → TK h5 ln po5 tp → TO h5 ln tp i → am_m h5 24 (i : Int) = s_va tp ln i → am_m h5 25 (i : Int) = s_st tp ln i → (i < 400 → s_kd tp ln i ≠ 260 ∧ s_kd tp ln i ≠ 261 → s_sk tp ln po5 = s_st tp ln (i + 1)) → (i = 400 → s_kd tp ln i = 260 ∨ s_kd tp ln i = 261) → WP (d + 6) 90 (95, [(2, 22), y1, (0, (i : Int))], [], am_w h5 23 (i : Int) (s_kd tp ln i), 0, 0) K := fun h5 po5 f5 x5 to5 ev est hsk h400 => by
      have x6 := x5.ro (b := 23) (i := (i : Int)) (v := s_kd tp ln i) (by omega)
      have f6 : Fr 22 5 h (am_w h5 23 (i : Int) (s_kd tp ln i)) := f5.w (by decide) (by decide)
      have ek : am_m (am_w h5 23 (i : Int) (s_kd tp ln i)) 23 (i : Int) = s_kd tp ln i := by rw [am_m_w, if_pos ⟨rfl, rfl⟩]
      have to6 : TO (am_w h5 23 (i : Int) (s_kd tp ln i)) ln tp (i + 1) := fun j hj => by
        by_cases zj : j = i
        · subst zj
          rw [ek, am_m_w, if_neg (by omega), am_m_w, if_neg (by omega)]
          exact ⟨rfl, ev, est⟩
        · rw [am_m_w, if_neg (by omega), am_m_w, if_neg (by omega), am_m_w, if_neg (by omega)]
          exact to5 j (by omega)
      refine v90_95 ?_
      simp only [x6.t, x6.f0, x6.t0, x6.l0, ek, true_and]
      rw [w32_nat (by omega)]
      refine ⟨⟨by omega, by omega⟩, fun z => kk _ i po5 f6 x6 ⟨hi, Or.inl z, ne⟩ to6, fun z => ⟨⟨by omega, by omega⟩, fun z2 => kk _ i po5 f6 x6 ⟨hi, Or.inr z2, ne⟩ to6, fun z2 => ?_⟩⟩
      by_cases z4 : i = 400
      · exact absurd (h400 z4) (fun y => y.elim z z2)
      · exact nx (by omega) _ po5 f6 x6 (hsk (by omega) ⟨z, z2⟩) to6 (fun j hj => by
          by_cases zj : j = i
          · subst zj
            exact ⟨z, z2⟩
          · exact ne j (by omega))
    refine v90_48 ?_
    simp only [x4.t, x4.f5, x4.f6, x4.f0, x4.t0, x4.l0, true_and]
    refine ⟨fun zl => ⟨fun z4 => ?_, fun z4 => ?_⟩, fun zl => ⟨⟨by omega, by omega⟩, v90_68 ?_⟩⟩
    · have i4 : i = 400 := by omega
      have e1 : s_kd tp ln i = 261 := by
        unfold s_kd
        rw [if_pos zl, if_pos i4]
      have e2 : s_va tp ln i = 0 := by
        unfold s_va
        rw [if_pos zl, if_pos i4]
      refine v90_94 ?_
      simp only [x4.t0, x4.l0, true_and]
      refine ⟨⟨by omega, by omega⟩, ?_⟩
      have := last h4 _ f4 x4 to4 (v4.1.trans e2.symm) v4.2 (fun y => absurd i4 (by omega)) (fun _ => Or.inr e1)
      rw [e1] at this
      exact this
    · have i4 : ¬ i = 400 := by omega
      have e1 : s_kd tp ln i = (s_one tp ln (s_st tp ln i)).1 := by
        unfold s_kd
        rw [if_pos zl, if_neg i4]
      have e2 : s_va tp ln i = (s_one tp ln (s_st tp ln i)).2.2.getD 0 := by
        unfold s_va
        rw [if_pos zl, if_neg i4]
      refine c93 x4 zl ⟨by omega, by omega⟩ (fun h5 f5 x5 ev => ?_)
      rw [v4.1] at ev
      refine v90_94 ?_
      simp only [x5.t0, x5.l0, true_and]
      refine ⟨⟨by omega, by omega⟩, ?_⟩
      have := last h5 _ (f4.tr f5.1) x5 (fun j hj => by
        rw [f5.2 _ _ (by omega) (by omega), f5.2 _ _ (by omega) (by omega), f5.2 _ _ (by omega) (by omega)]
        exact to4 j hj) (ev.trans e2.symm) ((f5.2 _ _ (by omega) (by omega)).trans v4.2) (fun _ _ => rfl) (fun y => absurd y i4)
      rw [e1] at this
      exact this
    · have e1 : s_kd tp ln i = 260 := by
        unfold s_kd
        rw [if_neg zl]
      have e2 : s_va tp ln i = 0 := by
        unfold s_va
        rw [if_neg zl]
      have := last h4 _ f4 x4 to4 (v4.1.trans e2.symm) v4.2 (fun _ y => absurd e1 y.1) (fun _ => Or.inl e1)
      rw [e1] at this
      exact this
  induction n with
  | zero =>
    intro i hij h1 po y1 f1 x es to ne
    exact body i (by omega) h1 po y1 f1 x es to ne (fun y => absurd y (by omega))
  | succ n ih =>
    intro i hij h1 po y1 f1 x es to ne
    exact body i (by omega) h1 po y1 f1 x es to ne (fun _ h2 po2 f2 x2 es2 to2 ne2 => ih (i + 1) (by omega) h2 po2 y1 f2 x2 es2 to2 ne2)
