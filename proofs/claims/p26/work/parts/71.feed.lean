/-! ===== the tape ===== -/
theorem am_and255 {y : Int} : am_and y 255 = y % 256 := by
  show (BitVec.ofInt 32 y &&& BitVec.ofInt 32 255).toInt = _
  have e1 : (BitVec.ofInt 32 y &&& BitVec.ofInt 32 255).toNat = (BitVec.ofInt 32 y).toNat % 256 := by
    rw [BitVec.toNat_and]
    show (BitVec.ofInt 32 y).toNat &&& (2 ^ 8 - 1) = _
    rw [Nat.and_two_pow_sub_one_eq_mod]
  have e2 : (2 : Nat) ^ 32 = 4294967296 := rfl
  have e3 : ((2 ^ 32 : Nat) : Int) = 4294967296 := rfl
  rw [BitVec.toInt_eq_toNat_cond, e1, e2, if_pos (by omega), BitVec.toNat_ofInt, e3]
  omega
theorem am_i2b_and {y : Int} : am_i2b (am_i2b y) = am_i2b (am_and y 255) := by
  rw [am_and255]
  unfold am_i2b
  have e : (y % 256) % ((256 : Nat) : Int) = y % ((256 : Nat) : Int) := by omega
  rw [Int.bmod_bmod, Int.bmod_def, Int.bmod_def, e]
def s_byte (a k : Int) : Int := am_and (am_shr a (24 - 8 * k)) 255
def s_tp (tp : Int → Int) (tl a : Int) : Int → Int := fun i => if i < tl then tp i else s_byte a (i - tl)
def TC (h : AH) (tl : Int) (tp : Int → Int) : Prop := ∀ i, 0 ≤ i → i < tl → am_m h 1 i = am_i2b (tp i)
theorem GC.tp {h h1 : AH} {pp ss : TT} {tt : Int → List Op} {tp tp2 : Int → Int} {tl er q dq t2 : Int} (g : GC h pp ss tt tl tp er q dq) (f : Fr 0 2 h h1) (e0 : ∀ i, i ≠ 1 → am_m h1 0 i = am_m h 0 i) (e1 : am_m h1 0 1 = t2) (ht : 0 ≤ t2 ∧ t2 ≤ 2000) (tc2 : TC h1 t2 tp2) : GC h1 pp ss tt t2 tp2 er q dq := by
  have hq := g.qd
  have hn := g.n
  have b0 := f.2.2.2.1 0 (by omega)
  have b1 := f.2.2.2.1 1 (by omega)
  have hf := f.1
  obtain ⟨q2, x⟩ := g.tr
  exact ⟨b0.1.trans g.t0, (e0 _ (by decide)).trans g.f0, e1, (e0 _ (by decide)).trans g.f2, (e0 _ (by decide)).trans g.f3, (e0 _ (by decide)).trans g.f4, (e0 _ (by decide)).trans g.f5, (e0 _ (by decide)).trans g.f6, (e0 _ (by decide)).trans g.f7, (e0 _ (by decide)).trans g.f8, (e0 _ (by decide)).trans g.f9, b1.1.trans g.t1, b1.2.trans g.l1, g.c.fr f (by omega) (by omega), (f.2.2.2.2 35 (by omega) (by omega) 2).trans g.lo, g.ct.fr g.c.Q f (by omega), ⟨q2, x.fr f (by omega)⟩, hq, g.hb, g.sb, by omega, ht, tc2⟩
theorem c103 {d : Nat} {h : AH} {pp ss : TT} {tt : Int → List Op} {tp : Int → Int} {tl er q dq a : Int} {K : AK} (g : GC h pp ss tt tl tp er q dq) (ht : tl ≤ 1996) (k : ∀ h2, Fr 0 2 h h2 → GC h2 pp ss tt (tl + 4) (s_tp tp tl a) er q dq → K 0 0 h2) : am_call d 103 [(2, 0), (0, a)] h K := by
  refine v103 ?_
  suffices H : ∀ j : Nat, ∀ i : Nat, i + j = 4 → ∀ h1, Fr 0 2 h h1 → GC h1 pp ss tt (tl + (i : Int)) (s_tp tp tl a) er q dq → WP d 103 (3, [(2, 0), (0, a), (0, 24 - 8 * (i : Int))], [], h1, 0, 0) K by
    refine H 4 0 rfl h Fr.rf ?_
    rw [show tl + ((0 : Nat) : Int) = tl by omega]
    refine g.tp Fr.rf (fun _ _ => rfl) g.f1 g.tb (fun i z1 z2 => ?_)
    have e : s_tp tp tl a i = tp i := if_pos (by omega)
    rw [e]
    exact g.tc i z1 (by omega)
  intro j
  induction j with
  | zero =>
    intro i hij h1 f1 g1
    refine v103_3 ⟨fun _ => ?_, fun z => absurd (show 24 - 8 * (i : Int) < 0 by omega) z⟩
    rw [show i = 4 by omega] at g1
    exact k h1 f1 g1
  | succ j ih =>
    intro i hij h1 f1 g1
    have t1 := g1.tc
    have tb := g1.tb
    have hn := g1.n
    have G := ih (i + 1) (by omega)
    refine v103_3 ⟨fun z => absurd z (by omega), fun _ => ?_⟩
    simp only [g1.t0, g1.f0, g1.f1, g1.t1, g1.l1, true_and]
    have gA := g1.tp (h1 := am_w h1 1 (tl + (i : Int)) (am_i2b (am_i2b (am_shr a (24 - 8 * (i : Int)))))) (t2 := tl + (i : Int)) (Fr.rf.w (by decide) (by decide)) (fun n _ => by rw [am_m_w, if_neg (by omega)]) (by rw [am_m_w, if_neg (by omega)]; exact g1.f1) tb (fun n z1 z2 => by rw [am_m_w, if_neg (by omega)]; exact t1 n z1 z2)
    simp only [gA.t0, gA.f1, true_and]
    refine ⟨fun _ => ⟨⟨by omega, by omega⟩, ?_⟩, fun z => absurd (show tl + (i : Int) < 2000 by omega) z⟩
    rw [w32_id (x := 24 - 8 * (i : Int) + -8) (by omega) (by omega), w32_id (x := tl + (i : Int) + 1) (by omega) (by omega), show 24 - 8 * (i : Int) + -8 = 24 - 8 * ((i + 1 : Nat) : Int) by omega, show tl + (i : Int) + 1 = tl + ((i + 1 : Nat) : Int) by omega]
    refine G _ ((f1.w (by decide) (by decide)).w (by decide) (by decide)) (gA.tp (Fr.rf.w (by decide) (by decide)) (fun n hn => by rw [am_m_w, if_neg (by omega)]) (by rw [am_m_w, if_pos ⟨rfl, rfl⟩]) ⟨by omega, by omega⟩ (fun n z1 z2 => ?_))
    rw [am_m_w, if_neg (by omega), am_m_w]
    by_cases zn : n = tl + (i : Int)
    · rw [if_pos ⟨rfl, zn⟩, am_i2b_and]
      have e : s_tp tp tl a n = s_byte a (n - tl) := if_neg (by omega)
      rw [e, show n - tl = (i : Int) by omega]
      rfl
    · rw [if_neg (by omega)]
      exact t1 n z1 (by omega)
def s_t5 (tp : Int → Int) (tl a b c e f : Int) : Int → Int := s_tp (s_tp (s_tp (s_tp (s_tp tp tl a) (tl + 4) b) (tl + 4 + 4) c) (tl + 4 + 4 + 4) e) (tl + 4 + 4 + 4 + 4) f
theorem c102 {d : Nat} {h : AH} {pp ss : TT} {tt : Int → List Op} {tp : Int → Int} {tl er q dq a b c e f : Int} {K : AK} (g : GC h pp ss tt tl tp er q dq) (k0 : tl ≤ 1980 → ∀ h2, Fr 0 2 h h2 → GC h2 pp ss tt (tl + 20) (s_t5 tp tl a b c e f) er q dq → K 0 (tl + 20) h2) (k1 : ¬ tl ≤ 1980 → ∀ h2, Fr 0 2 h h2 → GC h2 pp ss tt tl tp er q dq → K 1 0 h2) : am_call (d + 1) 102 [(2, 0), (0, a), (0, b), (0, c), (0, e), (0, f)] h K := by
  refine v102 ?_
  simp only [g.t0, g.f1, true_and]
  refine ⟨fun z => ⟨⟨Nat.le_refl _, Nat.le_refl _⟩, fun m hm => k1 (by omega) _ (Fr.rf.sn hm) (g.sn hm)⟩, fun z => ?_⟩
  refine c103 g (by omega) (fun h1 f1 g1 => ⟨g1.t0, c103 g1 (by omega) (fun h2 f2 g2 => ⟨g2.t0, c103 g2 (by omega) (fun h3 f3 g3 => ⟨g3.t0, c103 g3 (by omega) (fun h4 f4 g4 => ⟨g4.t0, c103 g4 (by omega) (fun h5 f5 g5 => ⟨g5.t0, ?_⟩)⟩)⟩)⟩)⟩)
  rw [g5.f1]
  have ee : tl + 4 + 4 + 4 + 4 + 4 = tl + 20 := by omega
  rw [ee] at g5 ⊢
  exact k0 (by omega) h5 ((f1.tr (f2.tr (f3.tr (f4.tr f5)))).wide (by decide) (by decide)) g5
theorem c104 {d : Nat} {h : AH} {pp ss : TT} {tt : Int → List Op} {tp : Int → Int} {tl er q dq n : Int} {K : AK} (g : GC h pp ss tt tl tp er q dq) (k0 : 0 ≤ n ∧ n ≤ tl → ∀ h2, Fr 0 2 h h2 → GC h2 pp ss tt n tp er q dq → K 0 n h2) (k2 : ¬ (0 ≤ n ∧ n ≤ tl) → ∀ h2, Fr 0 2 h h2 → GC h2 pp ss tt tl tp er q dq → K 2 0 h2) : am_call d 104 [(2, 0), (0, n)] h K := by
  have tb := g.tb
  refine v104 ?_
  simp only [g.t0, g.f1, true_and]
  refine ⟨fun z => ⟨⟨Nat.le_refl _, Nat.le_refl _⟩, fun m hm => k2 (by omega) _ (Fr.rf.sn hm) (g.sn hm)⟩, fun z => ⟨fun z1 => ⟨⟨Nat.le_refl _, Nat.le_refl _⟩, fun m hm => k2 (by omega) _ (Fr.rf.sn hm) (g.sn hm)⟩, fun z1 => ?_⟩⟩
  refine k0 (by omega) _ (Fr.rf.w (by decide) (by decide)) (g.tp (Fr.rf.w (by decide) (by decide)) (fun i hi => by rw [am_m_w, if_neg (by omega)]) (by rw [am_m_w, if_pos ⟨rfl, rfl⟩]) ⟨by omega, by omega⟩ (fun i z2 z3 => ?_))
  rw [am_m_w, if_neg (by omega)]
  exact g.tc i z2 (by omega)
