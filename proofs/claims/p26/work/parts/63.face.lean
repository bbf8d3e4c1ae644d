/-! ===== the jury as an object: at 0, its tape at 1, its parish at 35, the one for trials at 44 ===== -/
def GC (h : AH) (pp ss : TT) (tt : Int → List Op) (tl : Int) (tp : Int → Int) (er q dq : Int) : Prop := (am_t h 0 = 6) ∧ (am_m h 0 0 = 1) ∧ (am_m h 0 1 = tl) ∧ (am_m h 0 2 = er) ∧ (am_m h 0 3 = q) ∧ (am_m h 0 4 = dq) ∧ (am_m h 0 5 = 22) ∧ (am_m h 0 6 = 27) ∧ (am_m h 0 7 = 30) ∧ (am_m h 0 8 = 35) ∧ (am_m h 0 9 = 44) ∧ (am_t h 1 = 21) ∧ (am_l h 1 = 2000) ∧ (CC h 35 q pp ss) ∧ (am_m h 35 2 = -1) ∧ (CT h q pp tt) ∧ (∃ q2, P3 h 44 q2) ∧ ((q = 2 ∧ dq = 12) ∨ (q = 12 ∧ dq = 2)) ∧ (∀ p, 0 ≤ p → p < pp 1 0 → ss 7 p < ss 0 0) ∧ (SB pp ss) ∧ (53 ≤ am_n h) ∧ (0 ≤ tl ∧ tl ≤ 2000) ∧ (∀ i, 0 ≤ i → i < tl → am_m h 1 i = am_i2b (tp i))
theorem GC.t0 {h : AH} {pp ss : TT} {tt : Int → List Op} {tl : Int} {tp : Int → Int} {er q dq : Int} (x : GC h pp ss tt tl tp er q dq) : am_t h 0 = 6 := x.1
theorem GC.f0 {h : AH} {pp ss : TT} {tt : Int → List Op} {tl : Int} {tp : Int → Int} {er q dq : Int} (x : GC h pp ss tt tl tp er q dq) : am_m h 0 0 = 1 := x.2.1
theorem GC.f1 {h : AH} {pp ss : TT} {tt : Int → List Op} {tl : Int} {tp : Int → Int} {er q dq : Int} (x : GC h pp ss tt tl tp er q dq) : am_m h 0 1 = tl := x.2.2.1
theorem GC.f2 {h : AH} {pp ss : TT} {tt : Int → List Op} {tl : Int} {tp : Int → Int} {er q dq : Int} (x : GC h pp ss tt tl tp er q dq) : am_m h 0 2 = er := x.2.2.2.1
theorem GC.f3 {h : AH} {pp ss : TT} {tt : Int → List Op} {tl : Int} {tp : Int → Int} {er q dq : Int} (x : GC h pp ss tt tl tp er q dq) : am_m h 0 3 = q := x.2.2.2.2.1
theorem GC.f4 {h : AH} {pp ss : TT} {tt : Int → List Op} {tl : Int} {tp : Int → Int} {er q dq : Int} (x : GC h pp ss tt tl tp er q dq) : am_m h 0 4 = dq := x.2.2.2.2.2.1
theorem GC.f5 {h : AH} {pp ss : TT} {tt : Int → List Op} {tl : Int} {tp : Int → Int} {er q dq : Int} (x : GC h pp ss tt tl tp er q dq) : am_m h 0 5 = 22 := x.2.2.2.2.2.2.1
theorem GC.f6 {h : AH} {pp ss : TT} {tt : Int → List Op} {tl : Int} {tp : Int → Int} {er q dq : Int} (x : GC h pp ss tt tl tp er q dq) : am_m h 0 6 = 27 := x.2.2.2.2.2.2.2.1
theorem GC.f7 {h : AH} {pp ss : TT} {tt : Int → List Op} {tl : Int} {tp : Int → Int} {er q dq : Int} (x : GC h pp ss tt tl tp er q dq) : am_m h 0 7 = 30 := x.2.2.2.2.2.2.2.2.1
theorem GC.f8 {h : AH} {pp ss : TT} {tt : Int → List Op} {tl : Int} {tp : Int → Int} {er q dq : Int} (x : GC h pp ss tt tl tp er q dq) : am_m h 0 8 = 35 := x.2.2.2.2.2.2.2.2.2.1
theorem GC.f9 {h : AH} {pp ss : TT} {tt : Int → List Op} {tl : Int} {tp : Int → Int} {er q dq : Int} (x : GC h pp ss tt tl tp er q dq) : am_m h 0 9 = 44 := x.2.2.2.2.2.2.2.2.2.2.1
theorem GC.t1 {h : AH} {pp ss : TT} {tt : Int → List Op} {tl : Int} {tp : Int → Int} {er q dq : Int} (x : GC h pp ss tt tl tp er q dq) : am_t h 1 = 21 := x.2.2.2.2.2.2.2.2.2.2.2.1
theorem GC.l1 {h : AH} {pp ss : TT} {tt : Int → List Op} {tl : Int} {tp : Int → Int} {er q dq : Int} (x : GC h pp ss tt tl tp er q dq) : am_l h 1 = 2000 := x.2.2.2.2.2.2.2.2.2.2.2.2.1
theorem GC.c {h : AH} {pp ss : TT} {tt : Int → List Op} {tl : Int} {tp : Int → Int} {er q dq : Int} (x : GC h pp ss tt tl tp er q dq) : CC h 35 q pp ss := x.2.2.2.2.2.2.2.2.2.2.2.2.2.1
theorem GC.lo {h : AH} {pp ss : TT} {tt : Int → List Op} {tl : Int} {tp : Int → Int} {er q dq : Int} (x : GC h pp ss tt tl tp er q dq) : am_m h 35 2 = -1 := x.2.2.2.2.2.2.2.2.2.2.2.2.2.2.1
theorem GC.ct {h : AH} {pp ss : TT} {tt : Int → List Op} {tl : Int} {tp : Int → Int} {er q dq : Int} (x : GC h pp ss tt tl tp er q dq) : CT h q pp tt := x.2.2.2.2.2.2.2.2.2.2.2.2.2.2.2.1
theorem GC.tr {h : AH} {pp ss : TT} {tt : Int → List Op} {tl : Int} {tp : Int → Int} {er q dq : Int} (x : GC h pp ss tt tl tp er q dq) : ∃ q2, P3 h 44 q2 := x.2.2.2.2.2.2.2.2.2.2.2.2.2.2.2.2.1
theorem GC.qd {h : AH} {pp ss : TT} {tt : Int → List Op} {tl : Int} {tp : Int → Int} {er q dq : Int} (x : GC h pp ss tt tl tp er q dq) : (q = 2 ∧ dq = 12) ∨ (q = 12 ∧ dq = 2) := x.2.2.2.2.2.2.2.2.2.2.2.2.2.2.2.2.2.1
theorem GC.hb {h : AH} {pp ss : TT} {tt : Int → List Op} {tl : Int} {tp : Int → Int} {er q dq : Int} (x : GC h pp ss tt tl tp er q dq) : ∀ p, 0 ≤ p → p < pp 1 0 → ss 7 p < ss 0 0 := x.2.2.2.2.2.2.2.2.2.2.2.2.2.2.2.2.2.2.1
theorem GC.sb {h : AH} {pp ss : TT} {tt : Int → List Op} {tl : Int} {tp : Int → Int} {er q dq : Int} (x : GC h pp ss tt tl tp er q dq) : SB pp ss := x.2.2.2.2.2.2.2.2.2.2.2.2.2.2.2.2.2.2.2.1
theorem GC.n {h : AH} {pp ss : TT} {tt : Int → List Op} {tl : Int} {tp : Int → Int} {er q dq : Int} (x : GC h pp ss tt tl tp er q dq) : 53 ≤ am_n h := x.2.2.2.2.2.2.2.2.2.2.2.2.2.2.2.2.2.2.2.2.1
theorem GC.tb {h : AH} {pp ss : TT} {tt : Int → List Op} {tl : Int} {tp : Int → Int} {er q dq : Int} (x : GC h pp ss tt tl tp er q dq) : 0 ≤ tl ∧ tl ≤ 2000 := x.2.2.2.2.2.2.2.2.2.2.2.2.2.2.2.2.2.2.2.2.2.1
theorem GC.tc {h : AH} {pp ss : TT} {tt : Int → List Op} {tl : Int} {tp : Int → Int} {er q dq : Int} (x : GC h pp ss tt tl tp er q dq) : ∀ i, 0 ≤ i → i < tl → am_m h 1 i = am_i2b (tp i) := x.2.2.2.2.2.2.2.2.2.2.2.2.2.2.2.2.2.2.2.2.2.2
theorem Fr.sn {lo n m : Int} {h h1 : AH} (x : Fr lo n h h1) (hm : am_n h1 ≤ m) : Fr lo n h (am_sn h1 m) := by
  obtain ⟨a1, a2, a3, a4, a5⟩ := x
  exact ⟨Int.le_trans a1 hm, a2, a3, a4, a5⟩
theorem GC.fr {h h1 : AH} {pp ss : TT} {tt : Int → List Op} {tp : Int → Int} {tl er q dq lo n : Int} (g : GC h pp ss tt tl tp er q dq) (f : Fr lo n h h1) (hl : 53 ≤ lo) : GC h1 pp ss tt tl tp er q dq := by
  have hq := g.qd
  have hn := g.n
  have e0 : ∀ i, am_m h1 0 i = am_m h 0 i := fun i => f.2.2.2.2 0 (by omega) (by omega) i
  have e1 := f.2.2.2.1 0 (by omega)
  have e2 := f.2.2.2.1 1 (by omega)
  have hf := f.1
  obtain ⟨q2, x⟩ := g.tr
  exact ⟨e1.1.trans g.t0, (e0 _).trans g.f0, (e0 _).trans g.f1, (e0 _).trans g.f2, (e0 _).trans g.f3, (e0 _).trans g.f4, (e0 _).trans g.f5, (e0 _).trans g.f6, (e0 _).trans g.f7, (e0 _).trans g.f8, (e0 _).trans g.f9, e2.1.trans g.t1, e2.2.trans g.l1, g.c.fr f (by omega) (by omega), (f.2.2.2.2 35 (by omega) (by omega) 2).trans g.lo, g.ct.fr g.c.Q f (by omega), ⟨q2, x.fr f (by omega)⟩, hq, g.hb, g.sb, by omega, g.tb, fun i z1 z2 => (f.2.2.2.2 1 (by omega) (by omega) i).trans (g.tc i z1 z2)⟩
/-- the trial's parish was written -/
theorem GC.tw {h h1 : AH} {pp ss : TT} {tt : Int → List Op} {tp : Int → Int} {tl er q dq : Int} (g : GC h pp ss tt tl tp er q dq) (f : Fr 44 9 h h1) (x : ∃ q2, P3 h1 44 q2) : GC h1 pp ss tt tl tp er q dq := by
  have hq := g.qd
  have hn := g.n
  have e0 : ∀ i, am_m h1 0 i = am_m h 0 i := fun i => f.2.2.2.2 0 (by omega) (by omega) i
  have e1 := f.2.2.2.1 0 (by omega)
  have e2 := f.2.2.2.1 1 (by omega)
  have hf := f.1
  exact ⟨e1.1.trans g.t0, (e0 _).trans g.f0, (e0 _).trans g.f1, (e0 _).trans g.f2, (e0 _).trans g.f3, (e0 _).trans g.f4, (e0 _).trans g.f5, (e0 _).trans g.f6, (e0 _).trans g.f7, (e0 _).trans g.f8, (e0 _).trans g.f9, e2.1.trans g.t1, e2.2.trans g.l1, g.c.fr f (by omega) (by omega), (f.2.2.2.2 35 (by omega) (by omega) 2).trans g.lo, g.ct.fr g.c.Q f (by omega), x, hq, g.hb, g.sb, by omega, g.tb, fun i z1 z2 => (f.2.2.2.2 1 (by omega) (by omega) i).trans (g.tc i z1 z2)⟩
/-- the parish itself was written -/
theorem GC.pw {h h1 : AH} {pp ss s2 : TT} {tt : Int → List Op} {tp : Int → Int} {tl er q dq : Int} (g : GC h pp ss tt tl tp er q dq) (f : Fr 35 9 h h1) (c2 : CC h1 35 q pp s2) (lo2 : am_m h1 35 2 = -1) (hb2 : ∀ p, 0 ≤ p → p < pp 1 0 → s2 7 p < s2 0 0) (sb2 : SB pp s2) : GC h1 pp s2 tt tl tp er q dq := by
  have hq := g.qd
  have hn := g.n
  have e0 : ∀ i, am_m h1 0 i = am_m h 0 i := fun i => f.2.2.2.2 0 (by omega) (by omega) i
  have e1 := f.2.2.2.1 0 (by omega)
  have e2 := f.2.2.2.1 1 (by omega)
  have hf := f.1
  obtain ⟨q2, x⟩ := g.tr
  exact ⟨e1.1.trans g.t0, (e0 _).trans g.f0, (e0 _).trans g.f1, (e0 _).trans g.f2, (e0 _).trans g.f3, (e0 _).trans g.f4, (e0 _).trans g.f5, (e0 _).trans g.f6, (e0 _).trans g.f7, (e0 _).trans g.f8, (e0 _).trans g.f9, e2.1.trans g.t1, e2.2.trans g.l1, c2, lo2, g.ct.fr g.c.Q f (by omega), ⟨q2, x.fr f (by omega)⟩, hq, hb2, sb2, by omega, g.tb, fun i z1 z2 => (f.2.2.2.2 1 (by omega) (by omega) i).trans (g.tc i z1 z2)⟩
theorem GC.sn {h : AH} {pp ss : TT} {tt : Int → List Op} {tp : Int → Int} {tl er q dq m : Int} (g : GC h pp ss tt tl tp er q dq) (hm : am_n h ≤ m) : GC (am_sn h m) pp ss tt tl tp er q dq := g.fr (lo := 53) (n := 0) (Fr.rf.sn hm) (Int.le_refl _)
theorem c108 {d : Nat} {h : AH} {pp ss : TT} {tt : Int → List Op} {tp : Int → Int} {tl er q dq w : Int} {K : AK} (g : GC h pp ss tt tl tp er q dq) (w0 : 0 ≤ w) (w1 : w ≤ 11) (k : K 0 (s_ct pp ss tl w) h) : am_call (d + 3) 108 [(2, 0), (0, w)] h K := by
  unfold s_ct at k
  refine v108 ?_
  simp only [g.t0, g.f3, g.f8, g.f9, g.c.P.t, g.c.Q.t, true_and, g.c.yr, g.c.nw, g.c.np, g.c.nv, g.c.nb, g.c.bud, g.f1]
  have tot : 6 ≤ w ∧ w ≤ 10 → am_call (d + 2) 49 [(2, 35), (0, w)] h (fun x v hh => am_okx x (K 0 v hh)) := fun z => by
    rw [if_pos z] at k
    exact c49 g.c k
  refine ⟨fun z => ?_, fun z => ⟨fun z1 => ?_, fun z1 => ⟨fun z2 => ?_, fun z2 => ⟨fun z3 => ?_, fun z3 => ⟨fun z4 => ?_, fun z4 => ⟨fun z5 => ?_, fun z5 => ⟨fun z6 => tot (by omega), fun z6 => ⟨fun z7 => tot (by omega), fun z7 => ⟨fun z8 => tot (by omega), fun z8 => ⟨fun z9 => tot (by omega), fun z9 => ⟨fun z10 => tot (by omega), fun z10 => ⟨fun z11 => ?_, fun z11 => absurd z11 (by omega)⟩⟩⟩⟩⟩⟩⟩⟩⟩⟩⟩⟩
  · subst z; exact k
  · subst z1; exact k
  · subst z2; exact k
  · subst z3; exact k
  · subst z4; exact k
  · subst z5; exact k
  · subst z11; exact k
theorem c107 {d : Nat} {h : AH} {pp ss : TT} {tt : Int → List Op} {tp : Int → Int} {tl er q dq w : Int} {K : AK} (g : GC h pp ss tt tl tp er q dq) (k0 : 0 ≤ w ∧ w ≤ 11 → K 0 (s_ct pp ss tl w) h) (k3 : ¬ (0 ≤ w ∧ w ≤ 11) → ∀ h2, Fr 35 18 h h2 → GC h2 pp ss tt tl tp er q dq → K 3 0 h2) : am_call (d + 4) 107 [(2, 0), (0, w)] h K := by
  refine v107 ⟨fun z => ⟨⟨Nat.le_refl _, Nat.le_refl _⟩, fun m hm => k3 (by omega) _ (Fr.rf.sn hm) (g.sn hm)⟩, fun z => ⟨fun z1 => ⟨⟨Nat.le_refl _, Nat.le_refl _⟩, fun m hm => k3 (by omega) _ (Fr.rf.sn hm) (g.sn hm)⟩, fun z1 => ⟨g.t0, ?_⟩⟩⟩
  exact c108 g (by omega) (by omega) (k0 (by omega))
theorem c109 {d : Nat} {h : AH} {pp ss : TT} {tt : Int → List Op} {tp : Int → Int} {tl er q dq w t : Int} {K : AK} (g : GC h pp ss tt tl tp er q dq) (k0 : (0 ≤ w ∧ w < pp 0 0) ∧ 0 ≤ t ∧ t ≤ 3 → K 0 (s_ow pp ss w t) h) (k3 : ¬ ((0 ≤ w ∧ w < pp 0 0) ∧ 0 ≤ t ∧ t ≤ 3) → ∀ h2, Fr 35 18 h h2 → GC h2 pp ss tt tl tp er q dq → K 3 0 h2) : am_call (d + 2) 109 [(2, 0), (0, w), (0, t)] h K := by
  refine v109 ?_
  simp only [g.t0, g.f3, g.f8, g.f9, g.c.P.t, g.c.Q.t, true_and]
  refine c86 g.c.Q.t ?_
  rw [g.c.nw]
  show _ ∧ _
  refine ⟨fun z => ⟨⟨Nat.le_refl _, Nat.le_refl _⟩, fun m hm => k3 (fun z2 => ?_) _ (Fr.rf.sn hm) (g.sn hm)⟩, fun z => ?_⟩
  · rw [if_pos z2.1] at z
    exact absurd z (by decide)
  · have zw : 0 ≤ w ∧ w < pp 0 0 := Decidable.byContradiction fun z2 => z (if_neg z2)
    refine ⟨fun z1 => ⟨⟨Nat.le_refl _, Nat.le_refl _⟩, fun m hm => k3 (by omega) _ (Fr.rf.sn hm) (g.sn hm)⟩, fun z1 => ⟨fun z2 => ⟨⟨Nat.le_refl _, Nat.le_refl _⟩, fun m hm => k3 (by omega) _ (Fr.rf.sn hm) (g.sn hm)⟩, fun z2 => ?_⟩⟩
    simp only [g.t0, g.f3, g.f8, g.f9, g.c.P.t, g.c.Q.t, true_and]
    exact c53 g.c zw.1 zw.2 (k0 ⟨zw, by omega, by omega⟩)
theorem c110 {d : Nat} {h : AH} {pp ss : TT} {tt : Int → List Op} {tp : Int → Int} {tl er q dq p t : Int} {K : AK} (g : GC h pp ss tt tl tp er q dq) (k0 : (0 ≤ p ∧ p < pp 1 0) ∧ 0 ≤ t ∧ t ≤ 7 → ∀ h2, Fr 35 18 h h2 → GC h2 pp ss tt tl tp er q dq → K 0 (s_op pp ss tt p t) h2) (k3 : ¬ ((0 ≤ p ∧ p < pp 1 0) ∧ 0 ≤ t ∧ t ≤ 7) → ∀ h2, Fr 35 18 h h2 → GC h2 pp ss tt tl tp er q dq → K 3 0 h2) : am_call (d + 6) 110 [(2, 0), (0, p), (0, t)] h K := by
  refine v110 ?_
  simp only [g.t0, g.f3, g.f8, g.f9, g.c.P.t, g.c.Q.t, true_and]
  refine c87 g.c.Q.t ?_
  rw [g.c.np]
  show _ ∧ _
  refine ⟨fun z => ⟨⟨Nat.le_refl _, Nat.le_refl _⟩, fun m hm => k3 (fun z2 => ?_) _ (Fr.rf.sn hm) (g.sn hm)⟩, fun z => ?_⟩
  · rw [if_pos z2.1] at z
    exact absurd z (by decide)
  · have zw : 0 ≤ p ∧ p < pp 1 0 := Decidable.byContradiction fun z2 => z (if_neg z2)
    refine ⟨fun z1 => ⟨⟨Nat.le_refl _, Nat.le_refl _⟩, fun m hm => k3 (by omega) _ (Fr.rf.sn hm) (g.sn hm)⟩, fun z1 => ⟨fun z2 => ⟨⟨Nat.le_refl _, Nat.le_refl _⟩, fun m hm => k3 (by omega) _ (Fr.rf.sn hm) (g.sn hm)⟩, fun z2 => ?_⟩⟩
    simp only [g.t0, g.f3, g.f8, g.f9, g.c.P.t, g.c.Q.t, true_and]
    exact c54 g.c g.ct zw.1 zw.2 (fun h2 f2 c2 => k0 ⟨zw, by omega, by omega⟩ h2 (f2.fr.wide (by decide) (by decide)) (g.pw f2.fr c2 ((f2.2.2.2.2 35 2 (by decide) (by decide)).trans g.lo) g.hb g.sb))
theorem c111 {d : Nat} {h : AH} {pp ss : TT} {tt : Int → List Op} {tp : Int → Int} {tl er q dq p : Int} {K : AK} (g : GC h pp ss tt tl tp er q dq) (k0 : (0 ≤ p ∧ p < pp 1 0) → K 0 (s_sh pp ss p) h) (k3 : ¬ (0 ≤ p ∧ p < pp 1 0) → ∀ h2, Fr 35 18 h h2 → GC h2 pp ss tt tl tp er q dq → K 3 0 h2) : am_call (d + 3) 111 [(2, 0), (0, p)] h K := by
  refine v111 ?_
  simp only [g.t0, g.f3, g.f8, g.f9, g.c.P.t, g.c.Q.t, true_and]
  refine c87 g.c.Q.t ?_
  rw [g.c.np]
  show _ ∧ _
  refine ⟨fun z => ⟨⟨Nat.le_refl _, Nat.le_refl _⟩, fun m hm => k3 (fun z2 => ?_) _ (Fr.rf.sn hm) (g.sn hm)⟩, fun z => ?_⟩
  · rw [if_pos z2] at z
    exact absurd z (by decide)
  · have zw : 0 ≤ p ∧ p < pp 1 0 := Decidable.byContradiction fun z2 => z (if_neg z2)
    simp only [g.t0, g.f3, g.f8, g.f9, g.c.P.t, g.c.Q.t, true_and]
    exact c62 g.c zw.1 zw.2 (k0 zw)
theorem c112 {d : Nat} {h : AH} {pp ss : TT} {tt : Int → List Op} {tp : Int → Int} {tl er q dq v t : Int} {K : AK} (g : GC h pp ss tt tl tp er q dq) (k0 : (0 ≤ v ∧ v < pp 2 0) ∧ 0 ≤ t ∧ t ≤ 3 → K 0 (s_ov pp ss v t) h) (k3 : ¬ ((0 ≤ v ∧ v < pp 2 0) ∧ 0 ≤ t ∧ t ≤ 3) → ∀ h2, Fr 35 18 h h2 → GC h2 pp ss tt tl tp er q dq → K 3 0 h2) : am_call (d + 3) 112 [(2, 0), (0, v), (0, t)] h K := by
  refine v112 ?_
  simp only [g.t0, g.f3, g.f8, g.f9, g.c.P.t, g.c.Q.t, true_and]
  refine c88 g.c.Q.t ?_
  rw [g.c.nv]
  show _ ∧ _
  refine ⟨fun z => ⟨⟨Nat.le_refl _, Nat.le_refl _⟩, fun m hm => k3 (fun z2 => ?_) _ (Fr.rf.sn hm) (g.sn hm)⟩, fun z => ?_⟩
  · rw [if_pos z2.1] at z
    exact absurd z (by decide)
  · have zw : 0 ≤ v ∧ v < pp 2 0 := Decidable.byContradiction fun z2 => z (if_neg z2)
    refine ⟨fun z1 => ⟨⟨Nat.le_refl _, Nat.le_refl _⟩, fun m hm => k3 (by omega) _ (Fr.rf.sn hm) (g.sn hm)⟩, fun z1 => ⟨fun z2 => ⟨⟨Nat.le_refl _, Nat.le_refl _⟩, fun m hm => k3 (by omega) _ (Fr.rf.sn hm) (g.sn hm)⟩, fun z2 => ?_⟩⟩
    simp only [g.t0, g.f3, g.f8, g.f9, g.c.P.t, g.c.Q.t, true_and]
    exact c55 g.c zw.1 zw.2 (k0 ⟨zw, by omega, by omega⟩)
theorem c113 {d : Nat} {h : AH} {pp ss : TT} {tt : Int → List Op} {tp : Int → Int} {tl er q dq v p : Int} {K : AK} (g : GC h pp ss tt tl tp er q dq) (k0 : (0 ≤ v ∧ v < pp 2 0) ∧ 0 ≤ p ∧ p < pp 1 0 → K 0 (ss 9 (12 * v + p)) h) (k3 : ¬ ((0 ≤ v ∧ v < pp 2 0) ∧ 0 ≤ p ∧ p < pp 1 0) → ∀ h2, Fr 35 18 h h2 → GC h2 pp ss tt tl tp er q dq → K 3 0 h2) : am_call (d + 1) 113 [(2, 0), (0, v), (0, p)] h K := by
  have nv := g.c.I.nv
  refine v113 ?_
  simp only [g.t0, g.f3, g.f8, g.f9, g.c.P.t, g.c.Q.t, true_and]
  refine c88 g.c.Q.t ?_
  rw [g.c.nv]
  show _ ∧ _
  refine ⟨fun z => ⟨⟨Nat.le_refl _, Nat.le_refl _⟩, fun m hm => k3 (fun z2 => ?_) _ (Fr.rf.sn hm) (g.sn hm)⟩, fun z => ?_⟩
  · rw [if_pos z2.1] at z
    exact absurd z (by decide)
  · have zw : 0 ≤ v ∧ v < pp 2 0 := Decidable.byContradiction fun z2 => z (if_neg z2)
    simp only [g.t0, g.f3, g.f8, g.f9, g.c.P.t, g.c.Q.t, true_and]
    refine c87 g.c.Q.t ?_
    rw [g.c.np]
    show _ ∧ _
    refine ⟨fun z => ⟨⟨Nat.le_refl _, Nat.le_refl _⟩, fun m hm => k3 (fun z2 => ?_) _ (Fr.rf.sn hm) (g.sn hm)⟩, fun z => ?_⟩
    · rw [if_pos z2.2] at z
      exact absurd z (by decide)
    · have zp : 0 ≤ p ∧ p < pp 1 0 := Decidable.byContradiction fun z2 => z (if_neg z2)
      simp only [g.t0, g.f3, g.f8, g.f9, g.c.P.t, g.c.Q.t, true_and]
      exact c59 g.c zw.1 (by omega) zp.1 zp.2 ⟨g.c.S.fan _, k0 ⟨zw, zp⟩⟩
theorem c114 {d : Nat} {h : AH} {pp ss : TT} {tt : Int → List Op} {tp : Int → Int} {tl er q dq v w : Int} {K : AK} (g : GC h pp ss tt tl tp er q dq) (k0 : (0 ≤ v ∧ v < pp 2 0) ∧ 0 ≤ w ∧ w < pp 2 0 → K 0 (w32 (s_pl pp ss w - s_pl pp ss v)) h) (k3 : ¬ ((0 ≤ v ∧ v < pp 2 0) ∧ 0 ≤ w ∧ w < pp 2 0) → ∀ h2, Fr 35 18 h h2 → GC h2 pp ss tt tl tp er q dq → K 3 0 h2) : am_call (d + 1) 114 [(2, 0), (0, v), (0, w)] h K := by
  have nv := g.c.I.nv
  refine v114 ?_
  simp only [g.t0, g.f3, g.f8, g.f9, g.c.P.t, g.c.Q.t, true_and]
  refine c88 g.c.Q.t ?_
  rw [g.c.nv]
  show _ ∧ _
  refine ⟨fun z => ⟨⟨Nat.le_refl _, Nat.le_refl _⟩, fun m hm => k3 (fun z2 => ?_) _ (Fr.rf.sn hm) (g.sn hm)⟩, fun z => ?_⟩
  · rw [if_pos z2.1] at z
    exact absurd z (by decide)
  · have zw : 0 ≤ v ∧ v < pp 2 0 := Decidable.byContradiction fun z2 => z (if_neg z2)
    simp only [g.t0, g.f3, g.f8, g.f9, g.c.P.t, g.c.Q.t, true_and]
    refine c88 g.c.Q.t ?_
    rw [g.c.nv]
    show _ ∧ _
    refine ⟨fun z => ⟨⟨Nat.le_refl _, Nat.le_refl _⟩, fun m hm => k3 (fun z2 => ?_) _ (Fr.rf.sn hm) (g.sn hm)⟩, fun z => ?_⟩
    · rw [if_pos z2.2] at z
      exact absurd z (by decide)
    · have zp : 0 ≤ w ∧ w < pp 2 0 := Decidable.byContradiction fun z2 => z (if_neg z2)
      simp only [g.t0, g.f3, g.f8, g.f9, g.c.P.t, g.c.Q.t, true_and]
      refine c57 g.c zp.1 (by omega) ?_
      show _ ∧ _
      refine ⟨g.t0, ?_⟩
      simp only [g.t0, g.f3, g.f8, g.f9, g.c.P.t, g.c.Q.t, true_and]
      exact c57 g.c zw.1 (by omega) (k0 ⟨zw, zp⟩)
