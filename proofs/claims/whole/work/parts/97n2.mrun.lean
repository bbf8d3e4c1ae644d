/-! ===== the reference: all is told, and the end of teach ===== -/
theorem map_getD : ∀ {R : List Int} {k : Nat}, (R.map mr).getD k 0 = mr (R.getD k 0)
  | [], _ => rfl
  | _ :: _, 0 => rfl
  | _ :: r, k + 1 => map_getD (R := r) (k := k)
section
variable {d : Nat} {h0 : AH} {q : Int} {tp : Int → Int} {tl : Int} {kd ro va fr : Nat → Int} {mn : Nat → Nat} {E : Nat} {K : AK}
theorem c198_57m {y2 : AV} {nc ns : Nat} (hd : 4 ≤ d) (g : GQ h0 q tp tl kd ro va fr mn E) (rf : ∀ j, j < E → RF kd ro va j) (e0 : am_m h0 53 10 = 0) (x0 : MK h0 q ro h0 0 f00) (kE : (run ro va E 0 f00).1 ≠ 0 → (run ro va E 0 f00).2.1 < E → ∀ h2, FN h0 h2 q → K 0 (run ro va E 0 f00).1 (am_w h2 53 3 (am_m h2 56 ((run ro va E 0 f00).2.1 : Int)))) (kG : (run ro va E 0 f00).1 = 0 → ∀ h2, MK h0 q ro h2 E (run ro va E 0 f00).2.2 → WP (d + 1) 198 (111, [(2, 53), (0, (E : Int)), (0, 0)], [], h2, nc, ns) K) : WP (d + 1) 198 (57, [(2, 53), (0, (E : Int)), y2], [], h0, nc, ns) K := by
  have E4 := g.E4
  have qb := g.qb
  have H : ∀ (n j : Nat) (f : TT) (h1 : AH) (y2 : AV), j + n = E → MK h0 q ro h1 j f → FI ro va f j → am_m h1 53 10 = (j : Int) → run ro va n j f = run ro va E 0 f00 → WP (d + 1) 198 (57, [(2, 53), (0, (E : Int)), y2], [], h1, nc, ns) K := by
    intro n
    induction n with
    | zero =>
      intro j f h1 y2 e x fi po er
      have e' : j = E := e
      subst e'
      have er' : (0, j, f) = run ro va j 0 f00 := er
      rw [← er'] at kG
      refine v198_57 ?_
      rw [po]
      exact ⟨(g.hh x.fn).1, fun z => absurd z (by omega), fun _ => kG rfl h1 x⟩
    | succ n ih =>
      intro j f h1 y2 e x fi po er
      have er' : (if (stp ro va f j).1 = 0 then run ro va n (j + 1) (stp ro va f j).2 else ((stp ro va f j).1, j, f)) = run ro va E 0 f00 := er
      have rj := rf j (by omega)
      have t := (g.hh x.fn).1
      refine v198_57 ?_
      rw [po]
      refine ⟨t, fun _ => ⟨t, t, c196 hd g rf x fi (by omega) po ⟨fun z h2 x2 po2 => okx ⟨fun _ => ?_, fun y => absurd rfl y⟩, fun z h2 f2 po2 => okx ⟨fun y => absurd y z, fun _ => ?_⟩⟩⟩, fun z => absurd (show (j : Int) < (E : Int) by omega) z⟩
      · rw [if_pos z] at er'
        have t2 := (g.hh x2.fn).1
        refine ⟨t2, t2, ?_⟩
        rw [po2, w32_nat (by omega)]
        exact ih (j + 1) _ _ _ (by omega) (x2.at qb) (fi.go rj z) (by rw [am_m_w, if_pos ⟨rfl, rfl⟩]) er'
      · rw [if_neg z] at er'
        rw [← er'] at kE
        have t2 := (g.hh f2).1
        have y := f2.tq qb g.p.b
        have e6 : am_m h2 53 6 = 56 := (y.2.1 6 (by omega)).trans g.f6
        have t56 : am_t h2 56 = 20 := (y.1 56 (by decide)).1.trans g.t56
        have l56 : am_l h2 56 = 401 := (y.1 56 (by decide)).2.trans g.l56
        rw [po2, e6, l56]
        exact ⟨t2, t2, ⟨t56, by omega, by omega⟩, t2, kE z (by show j < E; omega) h2 f2⟩
  exact H E 0 f00 h0 y2 (Nat.zero_add _) x0 FI.i0 e0 rfl
end
theorem M9.sw {h h2 : AH} {q s e a : Int} (x : M9 h 53 q s e) (b : BS h h2) (ee : ∀ i, (i = 1 ∨ (5 ≤ i ∧ i ≤ 9) ∨ i = 14 ∨ i = 15) → am_m h2 53 i = am_m h 53 i) (e12 : am_m h2 53 12 = a) : M9 h2 53 a s e := by
  have hb := x.b
  have bn := b.1
  have tt : ∀ c, c < 60 → am_t h2 c = am_t h c ∧ am_l h2 c = am_l h c := fun c hc => b.2.2.2 c (by omega)
  exact ⟨(tt 53 (by decide)).1.trans x.t, e12, (ee 14 (by decide)).trans x.f14, (ee 15 (by decide)).trans x.f15, (ee 1 (by decide)).trans x.f1, (tt (53 + 1) (by decide)).1.trans x.t1, (tt (53 + 1) (by decide)).2.trans x.l1, (ee 5 (by decide)).trans x.f5, (tt (53 + 2) (by decide)).1.trans x.t2, (tt (53 + 2) (by decide)).2.trans x.l2, (ee 6 (by decide)).trans x.f6, (tt (53 + 3) (by decide)).1.trans x.t3, (tt (53 + 3) (by decide)).2.trans x.l3, (ee 7 (by decide)).trans x.f7, (tt (53 + 4) (by decide)).1.trans x.t4, (tt (53 + 4) (by decide)).2.trans x.l4, (ee 8 (by decide)).trans x.f8, (tt (53 + 5) (by decide)).1.trans x.t5, (tt (53 + 5) (by decide)).2.trans x.l5, (ee 9 (by decide)).trans x.f9, (tt (53 + 6) (by decide)).1.trans x.t6, (tt (53 + 6) (by decide)).2.trans x.l6, x.p, by omega⟩
theorem c201_end {d : Nat} {h h9 : AH} {pp ss f : TT} {tt t2 : Int → List Op} {tp : Int → Int} {tl er q a : Int} {K : AK} (g : GM h pp ss tt tl tp er q) (r : RX h h9) (e3 : am_m h9 53 3 = -1) (ha : 88 ≤ a) (cp : MP h9 a f) (cb : MB h9 a f) (hI : PI f) (hB : PB f) (ct : MT h9 a f t2) (kG : ∀ h2 q2, Fr 53 34 h h2 → GM h2 f (s_bg f (ss 0 0)) t2 0 tp (-1) q2 → K 0 0 h2) : am_call (d + 6) 131 [(2, 71)] (am_w (am_w (am_w h9 53 2 0) 53 12 a) 53 4 (f 8 0)) (fun x4 _ h6 => am_okx x4 (K 0 0 h6)) := by
  have hn := g.n
  have hn9 := r.1.1
  have f7 := r.fr
  have yr := g.c.S.yr
  have M9' := g.c.M
  have B8 := (g.c.B.fr f7 (by decide))
  have A8 := (g.ah.fr f7 (by decide))
  have ey : am_m h9 71 0 = ss 0 0 := (f7.2.2.2.2 71 (by omega) (by omega) 0).trans g.c.yr
  have elo : am_m h9 71 9 = -1 := (f7.2.2.2.2 71 (by omega) (by omega) 9).trans g.lo
  have fw : Fr 53 1 h9 (am_w (am_w (am_w h9 53 2 0) 53 12 a) 53 4 (f 8 0)) := ((Fr.rf.w (by decide) (by decide)).w (by decide) (by decide)).w (by decide) (by decide)
  have em : ∀ i, ¬ (i = 2 ∨ i = 4 ∨ i = 12) → am_m (am_w (am_w (am_w h9 53 2 0) 53 12 a) 53 4 (f 8 0)) 53 i = am_m h9 53 i := fun i z => by rw [am_m_w, if_neg (by omega), am_m_w, if_neg (by omega), am_m_w, if_neg (by omega)]
  have w2 : am_m (am_w (am_w (am_w h9 53 2 0) 53 12 a) 53 4 (f 8 0)) 53 2 = 0 := by rw [am_m_w, if_neg (by decide), am_m_w, if_neg (by decide), am_m_w, if_pos ⟨rfl, rfl⟩]
  have w12 : am_m (am_w (am_w (am_w h9 53 2 0) 53 12 a) 53 4 (f 8 0)) 53 12 = a := by rw [am_m_w, if_neg (by decide), am_m_w, if_pos ⟨rfl, rfl⟩]
  have w4 : am_m (am_w (am_w (am_w h9 53 2 0) 53 12 a) 53 4 (f 8 0)) 53 4 = f 8 0 := by rw [am_m_w, if_pos ⟨rfl, rfl⟩]
  have bs := r.1.tr fw.bs
  generalize am_w (am_w (am_w h9 53 2 0) 53 12 a) 53 4 (f 8 0) = hD at fw em w2 w12 w4 bs ⊢
  have hnD := fw.1
  have mD : M9 hD 53 a 71 79 := M9'.sw bs (fun i hi => (em i (by omega)).trans (r.2 53 i (by omega) (by omega) (by omega))) w12
  have cpb := cp.1.b
  have eD : ∀ b i, b ≠ 53 → b < am_n h9 → am_m hD b i = am_m h9 b i := fun b i z hb => fw.2.2.2.2 b hb (by omega) i
  have cbD : MB hD a f := ⟨fun p h0 h1 => (eD _ _ (by omega) (by omega)).trans (cb.1 p h0 h1), fun v h0 h1 => by rw [eD _ _ (by omega) (by omega)]; exact cb.2 v h0 h1⟩
  refine c131 (y := ss 0 0) (lo := -1) mD (B8.fr fw (by decide)) (cp.fr fw (by omega)) cbD hI hB w4 ((eD _ _ (by decide) (by omega)).trans ey) (by omega) ((eD _ _ (by decide) (by omega)).trans elo) (by omega) (fun h2 f2 mm lo2 => okx ?_)
  have ff : Fr 53 34 h h2 := ((f7.wide (by decide) (by decide)).tr (fw.wide (by decide) (by decide))).tr (f2.wide (by decide) (by decide))
  have hff := ff.1
  have e53 : ∀ i, am_m h2 53 i = am_m hD 53 i := fun i => f2.2.2.2.2 53 (by omega) (by omega) i
  exact kG h2 a ff ⟨mm, lo2, (ct.fr cp.1 fw (by omega)).fr (cp.fr fw (by omega)).1 f2 (by omega), (A8.fr fw (by decide)).fr f2 (by decide), (e53 2).trans w2, (e53 3).trans ((em 3 (by decide)).trans e3), Or.inr ha, fun p _ _ => by show (-1 : Int) < ss 0 0; omega, fun p _ _ y => absurd (show (0 : Int) = 1 from y) (by decide), ⟨Int.le_refl _, by decide⟩, by omega, fun i h0 h1 => absurd h1 (by omega)⟩
