/-! ===== the tape of the reference ===== -/
def TM (h : AH) (tl : Int) (tp : Int → Int) : Prop := ∀ i, 0 ≤ i → i < tl → am_m h 54 i = tp i
theorem GM.uf {h h1 : AH} {pp ss : TT} {tt : Int → List Op} {tp tp2 : Int → Int} {tl er q t2 : Int} (g : GM h pp ss tt tl tp er q) (f : Fr 53 7 h h1) (m : M9 h1 53 q 71 79) (e2 : am_m h1 53 2 = t2) (e3 : am_m h1 53 3 = er) (e4 : am_m h1 53 4 = ss 1 0) (ht : 0 ≤ t2 ∧ t2 ≤ 2000) (tm2 : TM h1 t2 tp2) : GM h1 pp ss tt t2 tp2 er q := by
  have hq := g.qd
  have hn := g.n
  have hf := f.1
  obtain ⟨x1, x2, x3, x4, x5, x6, x7, x8⟩ := g.c
  exact ⟨⟨m, x2.fr f (by omega), x3.fr f (by omega), x4.fr x2 f (by omega), x5, x6, e4, x8⟩, (f.2.2.2.2 71 (by omega) (by omega) 9).trans g.lo, g.ct.fr g.c.Q f (by omega), g.ah.fr f (by omega), e2, e3, hq, g.hb, g.sb, ht, by omega, tm2⟩
theorem GM.row {h : AH} {pp ss : TT} {tt : Int → List Op} {tp tp2 : Int → Int} {tl er q b i v : Int} (g : GM h pp ss tt tl tp er q) (hb : 54 ≤ b ∧ b < 60) (tm2 : TM (am_w h b i v) tl tp2) : GM (am_w h b i v) pp ss tt tl tp2 er q :=
  g.uf (Fr.rf.w (by omega) (by omega)) (g.c.M.w (by omega)) (by rw [am_m_w, if_neg (by omega)]; exact g.tl) (by rw [am_m_w, if_neg (by omega)]; exact g.er) (by rw [am_m_w, if_neg (by omega)]; exact g.c.bud) g.tb tm2
theorem GM.tlen {h : AH} {pp ss : TT} {tt : Int → List Op} {tp tp2 : Int → Int} {tl er q v : Int} (g : GM h pp ss tt tl tp er q) (hv : 0 ≤ v ∧ v ≤ 2000) (tm2 : TM h v tp2) : GM (am_w h 53 2 v) pp ss tt v tp2 er q :=
  g.uf (Fr.rf.w (by omega) (by omega)) (g.c.M.w (by omega)) (by rw [am_m_w, if_pos ⟨rfl, rfl⟩]) (by rw [am_m_w, if_neg (by omega)]; exact g.er) (by rw [am_m_w, if_neg (by omega)]; exact g.c.bud) hv (fun i z1 z2 => by rw [am_m_w, if_neg (by omega)]; exact tm2 i z1 z2)
def s_a5 (a b c e f k : Int) : Int := if k = 0 then a else if k = 1 then b else if k = 2 then c else if k = 3 then e else f
theorem t5_at {tp : Int → Int} {tl a b c e f l : Int} (h0 : 0 ≤ l) (h1 : l < 20) : s_t5 tp tl a b c e f (tl + l) = am_and (am_shr (s_a5 a b c e f (l / 4)) (24 - 8 * (l % 4))) 255 := by
  simp only [s_t5, s_tp, s_byte]
  by_cases z1 : l < 4
  · rw [if_pos (by omega), if_pos (by omega), if_pos (by omega), if_pos (by omega), if_neg (by omega), show tl + l - tl = l % 4 by omega, show l / 4 = 0 by omega]
    rfl
  by_cases z2 : l < 8
  · rw [if_pos (by omega), if_pos (by omega), if_pos (by omega), if_neg (by omega), show tl + l - (tl + 4) = l % 4 by omega, show l / 4 = 1 by omega]
    rfl
  by_cases z3 : l < 12
  · rw [if_pos (by omega), if_pos (by omega), if_neg (by omega), show tl + l - (tl + 4 + 4) = l % 4 by omega, show l / 4 = 2 by omega]
    rfl
  by_cases z4 : l < 16
  · rw [if_pos (by omega), if_neg (by omega), show tl + l - (tl + 4 + 4 + 4) = l % 4 by omega, show l / 4 = 3 by omega]
    rfl
  · rw [if_neg (by omega), show tl + l - (tl + 4 + 4 + 4 + 4) = l % 4 by omega, show l / 4 = 4 by omega]
    rfl
theorem t5_lo {tp : Int → Int} {tl a b c e f i : Int} (h1 : i < tl) : s_t5 tp tl a b c e f i = tp i := by
  simp only [s_t5, s_tp]
  rw [if_pos (by omega), if_pos (by omega), if_pos (by omega), if_pos (by omega), if_pos (by omega)]
theorem c199 {d : Nat} {h : AH} {pp ss : TT} {tt : Int → List Op} {tp : Int → Int} {tl er q a b c e f : Int} {K : AK} (g : GM h pp ss tt tl tp er q) (k0 : tl ≤ 1980 → ∀ h2, Fr 53 34 h h2 → GT h2 pp ss tt (tl + 20) (s_t5 tp tl a b c e f) er q 0 → K 0 (tl + 20) h2) (k1 : ¬ tl ≤ 1980 → ∀ h2, Fr 53 34 h h2 → GT h2 pp ss tt tl tp er q 1 → K 0 0 h2) : am_call (d + 1) 199 [(2, 53), (0, a), (0, b), (0, c), (0, e), (0, f)] h K := by
  have tb := g.tb
  have hn := g.n
  have gt := g.t0 (v := 0)
  refine v199 ⟨g.c.M.t, v199_5 ⟨gt.1.c.M.t, ?_⟩⟩
  rw [gt.1.tl]
  refine ⟨fun z => ⟨gt.1.c.M.t, ?_⟩, fun z => ⟨⟨⟨by decide, by decide⟩, by decide, by decide⟩, ?_⟩⟩
  · refine v153 ⟨gt.1.c.M.t, v199_20 ?_⟩
    refine k1 (by omega) _ (f0.w (by decide) (by decide)) gt.1.t0
  · have hn1 : 88 ≤ am_n (am_w h 53 0 0) := hn
    have ff : Fr 53 34 h (am_w h 53 0 0) := f0
    generalize am_w h 53 0 0 = h1 at gt hn1 ff ⊢
    have ht : am_t (am_a h1 20 5 (fun _ => 0)) (am_n h1) = 20 := by rw [am_t_a, if_pos rfl]
    have hl : am_l (am_a h1 20 5 (fun _ => 0)) (am_n h1) = 5 := by rw [am_l_a, if_pos rfl]
    have l0 : (0 : Int) < am_l (am_a h1 20 5 (fun _ => 0)) (am_n h1) := by rw [hl]; decide
    have l1 : (1 : Int) < am_l (am_a h1 20 5 (fun _ => 0)) (am_n h1) := by rw [hl]; decide
    have l2 : (2 : Int) < am_l (am_a h1 20 5 (fun _ => 0)) (am_n h1) := by rw [hl]; decide
    have l3 : (3 : Int) < am_l (am_a h1 20 5 (fun _ => 0)) (am_n h1) := by rw [hl]; decide
    have l4 : (4 : Int) < am_l (am_a h1 20 5 (fun _ => 0)) (am_n h1) := by rw [hl]; decide
    refine ⟨⟨ht, by decide, l0⟩, v199_28 ⟨⟨ht, by decide, l1⟩, v199_32 ⟨⟨ht, by decide, l2⟩, v199_36 ⟨⟨ht, by decide, l3⟩, v199_41 ⟨⟨ht, by decide, l4⟩, v199_46 ⟨by omega, ?_⟩⟩⟩⟩⟩⟩
    have fA : Fr 0 0 h1 (am_w (am_w (am_w (am_w (am_w (am_a h1 20 5 (fun _ => 0)) (am_n h1) 0 a) (am_n h1) 1 b) (am_n h1) 2 c) (am_n h1) 3 e) (am_n h1) 4 f) := ((((Fr.rf.a.nw (Int.le_refl _)).nw (Int.le_refl _)).nw (Int.le_refl _)).nw (Int.le_refl _)).nw (Int.le_refl _)
    have ha : ∀ k, 0 ≤ k → k < 5 → am_m (am_w (am_w (am_w (am_w (am_w (am_a h1 20 5 (fun _ => 0)) (am_n h1) 0 a) (am_n h1) 1 b) (am_n h1) 2 c) (am_n h1) 3 e) (am_n h1) 4 f) (am_n h1) k = s_a5 a b c e f k := fun k z1 z2 => by
      unfold s_a5
      simp only [am_m_w, true_and]
      rcases (show k = 0 ∨ k = 1 ∨ k = 2 ∨ k = 3 ∨ k = 4 by omega) with z | z | z | z | z <;> subst z <;> rfl
    have ht2 : am_t (am_w (am_w (am_w (am_w (am_w (am_a h1 20 5 (fun _ => 0)) (am_n h1) 0 a) (am_n h1) 1 b) (am_n h1) 2 c) (am_n h1) 3 e) (am_n h1) 4 f) (am_n h1) = 20 := ht
    have hl2 : am_l (am_w (am_w (am_w (am_w (am_w (am_a h1 20 5 (fun _ => 0)) (am_n h1) 0 a) (am_n h1) 1 b) (am_n h1) 2 c) (am_n h1) 3 e) (am_n h1) 4 f) (am_n h1) = 5 := hl
    generalize am_w (am_w (am_w (am_w (am_w (am_a h1 20 5 (fun _ => 0)) (am_n h1) 0 a) (am_n h1) 1 b) (am_n h1) 2 c) (am_n h1) 3 e) (am_n h1) 4 f = g5 at fA ha ht2 hl2 ⊢
    have G5 := gt.1.fr fA (by decide)
    have th5 : am_m g5 53 0 = 0 := (fA.2.2.2.2 53 (by omega) (by omega) 0).trans gt.2
    have ff5 : Fr 53 34 h g5 := ff.tr ⟨fA.1, fA.2.1, fA.2.2.1, fA.2.2.2.1, fun b hb _ i => fA.2.2.2.2 b hb (by omega) i⟩
    have hnn : ¬ (53 ≤ am_n h1 ∧ am_n h1 < 60) := by omega
    generalize am_n h1 = n at ha ht2 hl2 hnn ⊢
    suffices H : ∀ j : Nat, ∀ i : Nat, i + j = 20 → ∀ h2, Fr 53 34 h h2 → GT h2 pp ss tt tl tp er q 0 → (∀ k, 0 ≤ k → k < 5 → am_m h2 n k = s_a5 a b c e f k) → am_t h2 n = 20 → am_l h2 n = 5 → TM h2 (tl + (i : Int)) (s_t5 tp tl a b c e f) → WP (d + 1) 199 (51, [(2, 53), (0, a), (0, b), (0, c), (0, e), (0, f), (2, n), (0, (i : Int))], [], h2, 1, 5) K from H 20 0 rfl g5 ff5 ⟨G5, th5⟩ ha ht2 hl2 (fun i z1 z2 => (G5.tm i z1 (by omega)).trans (t5_lo (by omega)).symm)
    intro j
    induction j with
    | zero =>
      intro i hij h2 f2 g2 ha ht hl tm
      refine v199_51 ⟨fun z => absurd z (by omega), fun _ => ⟨g2.1.c.M.t, g2.1.c.M.t, ?_⟩⟩
      rw [g2.1.tl, w32_id (x := tl + 20) (by omega) (by omega)]
      have g3 := g2.1.tlen (v := tl + 20) (tp2 := s_t5 tp tl a b c e f) ⟨by omega, by omega⟩ (fun o z1 z2 => tm o z1 (by omega))
      refine v199_109 ⟨g3.c.M.t, ?_⟩
      rw [g3.tl]
      refine k0 (by omega) _ (f2.w (by decide) (by decide)) ⟨g3, by rw [am_m_w, if_neg (by omega)]; exact g2.2⟩
    | succ j ih =>
      intro i hij h2 f2 g2 ha ht hl tm
      have G := ih (i + 1) (by omega)
      refine v199_51 ⟨fun _ => ?_, fun z => absurd (show (i : Int) < 20 by omega) z⟩
      rw [Int.tdiv_eq_ediv_of_nonneg (show (0 : Int) ≤ (i : Int) by omega), Int.tmod_eq_emod_of_nonneg (show (0 : Int) ≤ (i : Int) by omega)]
      simp only [g2.1.c.M.t, g2.1.c.M.f1, g2.1.c.M.t1, g2.1.c.M.l1, g2.1.tl, ht, hl, true_and]
      rw [w32_id (x := (i : Int) / 4) (by omega) (by omega), w32_id (x := tl + (i : Int)) (by omega) (by omega), w32_id (x := 8 * ((i : Int) % 4)) (by omega) (by omega), w32_id (x := 24 - 8 * ((i : Int) % 4)) (by omega) (by omega), ha ((i : Int) / 4) (by omega) (by omega), ← t5_at (tp := tp) (tl := tl) (show (0 : Int) ≤ (i : Int) by omega) (show (i : Int) < 20 by omega)]
      refine ⟨by decide, ⟨by omega, by omega⟩, by decide, ⟨by omega, by omega⟩, v199_92 ?_⟩
      rw [w32_nat (by omega)]
      refine G _ (f2.w (by decide) (by decide)) ⟨g2.1.row (by decide) (fun o z1 z2 => by rw [am_m_w, if_neg (by omega)]; exact g2.1.tm o z1 z2), by rw [am_m_w, if_neg (by omega)]; exact g2.2⟩ (fun k z1 z2 => ?_) ht hl (fun o z1 z2 => ?_)
      · rw [am_m_w, if_neg (by omega)]
        exact ha k z1 z2
      · rw [am_m_w]
        by_cases zo : o = tl + (i : Int)
        · rw [if_pos ⟨rfl, zo⟩, zo]
        · rw [if_neg (fun y => zo y.2)]
          exact tm o z1 (by omega)
theorem c200 {d : Nat} {h : AH} {pp ss : TT} {tt : Int → List Op} {tp : Int → Int} {tl er q n : Int} {K : AK} (g : GM h pp ss tt tl tp er q) (k0 : 0 ≤ n ∧ n ≤ tl → ∀ h2, Fr 53 34 h h2 → GT h2 pp ss tt n tp er q 0 → K 0 n h2) (k1 : ¬ (0 ≤ n ∧ n ≤ tl) → ∀ h2, Fr 53 34 h h2 → GT h2 pp ss tt tl tp er q 1 → K 0 0 h2) : am_call (d + 1) 200 [(2, 53), (0, n)] h K := by
  have tb := g.tb
  have gt := g.t0 (v := 0)
  refine v200 ⟨g.c.M.t, gt.1.c.M.t, ?_⟩
  rw [gt.1.tl]
  refine c154 ⟨fun z => ⟨gt.1.c.M.t, v153 ⟨gt.1.c.M.t, ?_⟩⟩, fun z => ⟨gt.1.c.M.t, ?_⟩⟩
  · refine k1 (if1 z) _ (f0.w (by decide) (by decide)) gt.1.t0
  · have zn := if0 z
    refine k0 zn _ (f0.w (by decide) (by decide)) ⟨gt.1.tlen ⟨by omega, by omega⟩ (fun i z1 z2 => gt.1.tm i z1 (by omega)), by rw [am_m_w, if_neg (by omega)]; exact gt.2⟩
