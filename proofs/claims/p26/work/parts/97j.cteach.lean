/-! ===== the class's teach ===== -/
def TX (h : AH) (dq : Int) : Prop := (am_t h 22 = 5) ∧ (am_m h 22 0 = 23) ∧ (am_m h 22 1 = 24) ∧ (am_m h 22 2 = 25) ∧ (am_m h 22 3 = 26) ∧ (am_m h 22 4 = 1) ∧ (am_t h 23 = 20 ∧ am_l h 23 = 401) ∧ (am_t h 24 = 22 ∧ am_l h 24 = 401) ∧ (am_t h 25 = 20 ∧ am_l h 25 = 401) ∧ (am_t h 26 = 22 ∧ am_l h 26 = 22) ∧ (∀ i, 0 ≤ i → i < 22 → am_m h 26 i = s_kw i) ∧ (am_t h 27 = 2) ∧ (am_m h 27 0 = 28) ∧ (am_m h 27 1 = 29) ∧ (am_m h 27 3 = 22) ∧ (am_t h 28 = 20 ∧ am_l h 28 = 401) ∧ (am_t h 29 = 20 ∧ am_l h 29 = 401) ∧ (am_t h 30 = 1) ∧ (am_m h 30 1 = 22) ∧ (am_m h 30 2 = 27) ∧ (am_m h 30 3 = 31) ∧ (am_m h 30 4 = 32) ∧ (am_m h 30 5 = 33) ∧ (am_m h 30 6 = 34) ∧ (am_t h 31 = 22 ∧ am_l h 31 = 4) ∧ (am_t h 32 = 22 ∧ am_l h 32 = 12) ∧ (am_t h 33 = 22 ∧ am_l h 33 = 12) ∧ (am_t h 34 = 20 ∧ am_l h 34 = 401) ∧ (P4 h dq) ∧ (dq = 2 ∨ dq = 12) ∧ (53 ≤ am_n h)
theorem TX.t22 {h : AH} {dq : Int} (x : TX h dq) : am_t h 22 = 5 := x.1
theorem TX.a0 {h : AH} {dq : Int} (x : TX h dq) : am_m h 22 0 = 23 := x.2.1
theorem TX.a1 {h : AH} {dq : Int} (x : TX h dq) : am_m h 22 1 = 24 := x.2.2.1
theorem TX.a2 {h : AH} {dq : Int} (x : TX h dq) : am_m h 22 2 = 25 := x.2.2.2.1
theorem TX.a3 {h : AH} {dq : Int} (x : TX h dq) : am_m h 22 3 = 26 := x.2.2.2.2.1
theorem TX.a4 {h : AH} {dq : Int} (x : TX h dq) : am_m h 22 4 = 1 := x.2.2.2.2.2.1
theorem TX.t23 {h : AH} {dq : Int} (x : TX h dq) : am_t h 23 = 20 ∧ am_l h 23 = 401 := x.2.2.2.2.2.2.1
theorem TX.t24 {h : AH} {dq : Int} (x : TX h dq) : am_t h 24 = 22 ∧ am_l h 24 = 401 := x.2.2.2.2.2.2.2.1
theorem TX.t25 {h : AH} {dq : Int} (x : TX h dq) : am_t h 25 = 20 ∧ am_l h 25 = 401 := x.2.2.2.2.2.2.2.2.1
theorem TX.t26 {h : AH} {dq : Int} (x : TX h dq) : am_t h 26 = 22 ∧ am_l h 26 = 22 := x.2.2.2.2.2.2.2.2.2.1
theorem TX.kw {h : AH} {dq : Int} (x : TX h dq) : ∀ i, 0 ≤ i → i < 22 → am_m h 26 i = s_kw i := x.2.2.2.2.2.2.2.2.2.2.1
theorem TX.t27 {h : AH} {dq : Int} (x : TX h dq) : am_t h 27 = 2 := x.2.2.2.2.2.2.2.2.2.2.2.1
theorem TX.b0 {h : AH} {dq : Int} (x : TX h dq) : am_m h 27 0 = 28 := x.2.2.2.2.2.2.2.2.2.2.2.2.1
theorem TX.b1 {h : AH} {dq : Int} (x : TX h dq) : am_m h 27 1 = 29 := x.2.2.2.2.2.2.2.2.2.2.2.2.2.1
theorem TX.b3 {h : AH} {dq : Int} (x : TX h dq) : am_m h 27 3 = 22 := x.2.2.2.2.2.2.2.2.2.2.2.2.2.2.1
theorem TX.t28 {h : AH} {dq : Int} (x : TX h dq) : am_t h 28 = 20 ∧ am_l h 28 = 401 := x.2.2.2.2.2.2.2.2.2.2.2.2.2.2.2.1
theorem TX.t29 {h : AH} {dq : Int} (x : TX h dq) : am_t h 29 = 20 ∧ am_l h 29 = 401 := x.2.2.2.2.2.2.2.2.2.2.2.2.2.2.2.2.1
theorem TX.t30 {h : AH} {dq : Int} (x : TX h dq) : am_t h 30 = 1 := x.2.2.2.2.2.2.2.2.2.2.2.2.2.2.2.2.2.1
theorem TX.d1 {h : AH} {dq : Int} (x : TX h dq) : am_m h 30 1 = 22 := x.2.2.2.2.2.2.2.2.2.2.2.2.2.2.2.2.2.2.1
theorem TX.d2 {h : AH} {dq : Int} (x : TX h dq) : am_m h 30 2 = 27 := x.2.2.2.2.2.2.2.2.2.2.2.2.2.2.2.2.2.2.2.1
theorem TX.d3 {h : AH} {dq : Int} (x : TX h dq) : am_m h 30 3 = 31 := x.2.2.2.2.2.2.2.2.2.2.2.2.2.2.2.2.2.2.2.2.1
theorem TX.d4 {h : AH} {dq : Int} (x : TX h dq) : am_m h 30 4 = 32 := x.2.2.2.2.2.2.2.2.2.2.2.2.2.2.2.2.2.2.2.2.2.1
theorem TX.d5 {h : AH} {dq : Int} (x : TX h dq) : am_m h 30 5 = 33 := x.2.2.2.2.2.2.2.2.2.2.2.2.2.2.2.2.2.2.2.2.2.2.1
theorem TX.d6 {h : AH} {dq : Int} (x : TX h dq) : am_m h 30 6 = 34 := x.2.2.2.2.2.2.2.2.2.2.2.2.2.2.2.2.2.2.2.2.2.2.2.1
theorem TX.t31 {h : AH} {dq : Int} (x : TX h dq) : am_t h 31 = 22 ∧ am_l h 31 = 4 := x.2.2.2.2.2.2.2.2.2.2.2.2.2.2.2.2.2.2.2.2.2.2.2.2.1
theorem TX.t32 {h : AH} {dq : Int} (x : TX h dq) : am_t h 32 = 22 ∧ am_l h 32 = 12 := x.2.2.2.2.2.2.2.2.2.2.2.2.2.2.2.2.2.2.2.2.2.2.2.2.2.1
theorem TX.t33 {h : AH} {dq : Int} (x : TX h dq) : am_t h 33 = 22 ∧ am_l h 33 = 12 := x.2.2.2.2.2.2.2.2.2.2.2.2.2.2.2.2.2.2.2.2.2.2.2.2.2.2.1
theorem TX.t34 {h : AH} {dq : Int} (x : TX h dq) : am_t h 34 = 20 ∧ am_l h 34 = 401 := x.2.2.2.2.2.2.2.2.2.2.2.2.2.2.2.2.2.2.2.2.2.2.2.2.2.2.2.1
theorem TX.p {h : AH} {dq : Int} (x : TX h dq) : P4 h dq := x.2.2.2.2.2.2.2.2.2.2.2.2.2.2.2.2.2.2.2.2.2.2.2.2.2.2.2.2.1
theorem TX.qd {h : AH} {dq : Int} (x : TX h dq) : dq = 2 ∨ dq = 12 := x.2.2.2.2.2.2.2.2.2.2.2.2.2.2.2.2.2.2.2.2.2.2.2.2.2.2.2.2.2.1
theorem TX.n {h : AH} {dq : Int} (x : TX h dq) : 53 ≤ am_n h := x.2.2.2.2.2.2.2.2.2.2.2.2.2.2.2.2.2.2.2.2.2.2.2.2.2.2.2.2.2.2
def BS (h h2 : AH) : Prop := am_n h ≤ am_n h2 ∧ am_sl h2 = am_sl h ∧ (∀ j, am_sx h2 j = am_sx h j) ∧ ∀ b, b < am_n h → am_t h2 b = am_t h b ∧ am_l h2 b = am_l h b
theorem BS.tr {h h1 h2 : AH} (a : BS h h1) (b : BS h1 h2) : BS h h2 := ⟨Int.le_trans a.1 b.1, b.2.1.trans a.2.1, fun j => (b.2.2.1 j).trans (a.2.2.1 j), fun c hc => ⟨(b.2.2.2 c (Int.lt_of_lt_of_le hc a.1)).1.trans (a.2.2.2 c hc).1, (b.2.2.2 c (Int.lt_of_lt_of_le hc a.1)).2.trans (a.2.2.2 c hc).2⟩⟩
theorem Fr.bs {h h2 : AH} {lo n : Int} (x : Fr lo n h h2) : BS h h2 := ⟨x.1, x.2.1, x.2.2.1, x.2.2.2.1⟩
theorem P4.cg {h h2 : AH} {q : Int} (x : P4 h q) (b : BS h h2) (e : ∀ i, 6 ≤ i → i ≤ 14 → am_m h2 q i = am_m h q i) : P4 h2 q := by
  have hb := x.b
  have tt : ∀ c, c ≤ q + 9 → am_t h2 c = am_t h c ∧ am_l h2 c = am_l h c := fun c hc => b.2.2.2 c (by omega)
  have bn := b.1
  exact ⟨(tt _ (by omega)).1.trans x.t, (e _ (by decide) (by decide)).trans x.f6, (tt _ (by omega)).1.trans x.t1, (tt _ (by omega)).2.trans x.l1, (e _ (by decide) (by decide)).trans x.f7, (tt _ (by omega)).1.trans x.t2, (tt _ (by omega)).2.trans x.l2, (e _ (by decide) (by decide)).trans x.f8, (tt _ (by omega)).1.trans x.t3, (tt _ (by omega)).2.trans x.l3, (e _ (by decide) (by decide)).trans x.f9, (tt _ (by omega)).1.trans x.t4, (tt _ (by omega)).2.trans x.l4, (e _ (by decide) (by decide)).trans x.f10, (tt _ (by omega)).1.trans x.t5, (tt _ (by omega)).2.trans x.l5, (e _ (by decide) (by decide)).trans x.f11, (tt _ (by omega)).1.trans x.t6, (tt _ (by omega)).2.trans x.l6, (e _ (by decide) (by decide)).trans x.f12, (tt _ (by omega)).1.trans x.t7, (tt _ (by omega)).2.trans x.l7, (e _ (by decide) (by decide)).trans x.f13, (tt _ (by omega)).1.trans x.t8, (tt _ (by omega)).2.trans x.l8, (e _ (by decide) (by decide)).trans x.f14, (tt _ (by omega)).1.trans x.t9, (tt _ (by omega)).2.trans x.l9, x.p, by omega⟩
theorem TX.cg {h h2 : AH} {dq : Int} (x : TX h dq) (b : BS h h2) (e22 : ∀ i, 0 ≤ i → i ≤ 4 → am_m h2 22 i = am_m h 22 i) (e26 : ∀ i, 0 ≤ i → i < 22 → am_m h2 26 i = am_m h 26 i) (e27 : ∀ i, (i = 0 ∨ i = 1 ∨ i = 3) → am_m h2 27 i = am_m h 27 i) (e30 : ∀ i, 1 ≤ i → i ≤ 6 → am_m h2 30 i = am_m h 30 i) (p : P4 h2 dq) : TX h2 dq := by
  have hn := x.n
  have bn := b.1
  have tt : ∀ c, c < 53 → am_t h2 c = am_t h c ∧ am_l h2 c = am_l h c := fun c hc => b.2.2.2 c (by omega)
  have tp : ∀ {c : Int} {a : Nat} {l : Int}, c < 53 → am_t h c = a ∧ am_l h c = l → am_t h2 c = a ∧ am_l h2 c = l := fun hc y => ⟨(tt _ hc).1.trans y.1, (tt _ hc).2.trans y.2⟩
  exact ⟨(tt _ (by decide)).1.trans x.t22, (e22 _ (by decide) (by decide)).trans x.a0, (e22 _ (by decide) (by decide)).trans x.a1, (e22 _ (by decide) (by decide)).trans x.a2, (e22 _ (by decide) (by decide)).trans x.a3, (e22 _ (by decide) (by decide)).trans x.a4, tp (by decide) x.t23, tp (by decide) x.t24, tp (by decide) x.t25, tp (by decide) x.t26, fun i h0 h1 => (e26 i h0 h1).trans (x.kw i h0 h1), (tt _ (by decide)).1.trans x.t27, (e27 _ (by decide)).trans x.b0, (e27 _ (by decide)).trans x.b1, (e27 _ (by decide)).trans x.b3, tp (by decide) x.t28, tp (by decide) x.t29, (tt _ (by decide)).1.trans x.t30, (e30 _ (by decide) (by decide)).trans x.d1, (e30 _ (by decide) (by decide)).trans x.d2, (e30 _ (by decide) (by decide)).trans x.d3, (e30 _ (by decide) (by decide)).trans x.d4, (e30 _ (by decide) (by decide)).trans x.d5, (e30 _ (by decide) (by decide)).trans x.d6, tp (by decide) x.t31, tp (by decide) x.t32, tp (by decide) x.t33, tp (by decide) x.t34, p, x.qd, by omega⟩
/-- what other faces write leaves it alone -/
theorem TX.fr {h h2 : AH} {dq lo n : Int} (x : TX h dq) (f : Fr lo n h h2) (ap : 35 ≤ lo ∨ lo + n ≤ 2) : TX h2 dq := by
  have hn := x.n
  have hq := x.qd
  have e : ∀ b, 2 ≤ b → b < 35 → ∀ i, am_m h2 b i = am_m h b i := fun b h0 h1 i => f.2.2.2.2 b (by omega) (by omega) i
  exact x.cg f.bs (fun i _ _ => e 22 (by decide) (by decide) i) (fun i _ _ => e 26 (by decide) (by decide) i) (fun i _ => e 27 (by decide) (by decide) i) (fun i _ _ => e 30 (by decide) (by decide) i) (x.p.cg f.bs (fun i _ _ => e dq (by omega) (by omega) i))
/-- what teach may have changed, behind the cutting -/
def RT (h h2 : AH) (dq : Int) : Prop := BS h h2 ∧ ∀ b i, b < am_n h → ¬ ((b = 0 ∧ (i = 1 ∨ i = 2)) ∨ (b = 27 ∧ (i = 2 ∨ i = 4)) ∨ b = 28 ∨ b = 29 ∨ (b = 30 ∧ i = 0) ∨ (31 ≤ b ∧ b ≤ 34) ∨ (b = dq ∧ 0 ≤ i ∧ i ≤ 5) ∨ (dq + 1 ≤ b ∧ b ≤ dq + 9)) → am_m h2 b i = am_m h b i
theorem RT.tr {h h1 h2 : AH} {dq : Int} (a : RT h h1 dq) (b : RT h1 h2 dq) : RT h h2 dq := ⟨a.1.tr b.1, fun c i hc z => (b.2 c i (Int.lt_of_lt_of_le hc a.1.1) z).trans (a.2 c i hc z)⟩
theorem RT.rf {h : AH} {dq : Int} : RT h h dq := ⟨⟨Int.le_refl _, rfl, fun _ => rfl, fun _ _ => ⟨rfl, rfl⟩⟩, fun _ _ _ _ => rfl⟩
theorem RT.w {h h1 : AH} {dq b i v : Int} (a : RT h h1 dq) (z : (b = 0 ∧ (i = 1 ∨ i = 2)) ∨ (b = 27 ∧ (i = 2 ∨ i = 4)) ∨ b = 28 ∨ b = 29 ∨ (b = 30 ∧ i = 0) ∨ (31 ≤ b ∧ b ≤ 34) ∨ (b = dq ∧ 0 ≤ i ∧ i ≤ 5) ∨ (dq + 1 ≤ b ∧ b ≤ dq + 9)) : RT h (am_w h1 b i v) dq := ⟨a.1, fun c j hc y => by rw [am_m_w, if_neg (fun w => y (by rw [w.1, w.2]; exact z))]; exact a.2 c j hc y⟩
theorem FQ.rt {h h2 : AH} {dq : Int} (x : FQ h h2 dq) : RT h h2 dq := ⟨x.1.bs, fun b i hb z => x.2 b i (by omega) (by omega) (by omega) (by omega) (by omega) (by omega) hb⟩
theorem FK.rt {h h2 : AH} {dq : Int} (x : FK h h2 dq) : RT h h2 dq := ⟨x.1.bs, fun b i hb z => x.2 b i (by omega) (by omega) (by omega) (by omega) hb⟩
theorem RT.tx {h h2 : AH} {dq : Int} (a : RT h h2 dq) (x : TX h dq) : TX h2 dq := by
  have hn := x.n
  have hq := x.qd
  exact x.cg a.1 (fun i _ _ => a.2 22 i (by omega) (by omega)) (fun i _ _ => a.2 26 i (by omega) (by omega)) (fun i z => a.2 27 i (by omega) (by omega)) (fun i z1 z2 => a.2 30 i (by omega) (by omega)) (x.p.cg a.1 (fun i z1 z2 => a.2 dq i (by omega) (by omega)))
section
variable {d D : Nat} {h h1 h2 : AH} {pp ss : TT} {tt : Int → List Op} {tp : Int → Int} {tl er q dq e2 : Int} {K : AK}
/-- the object, but for what teach wrote -/
theorem GC.split (g : GC h pp ss tt tl tp er q dq) (f : Fr 22 5 h h1) (r : RT h1 h2 dq) : ∃ hA hB, Fr 0 1 h hA ∧ Fr dq 10 hA hB ∧ Fr 22 13 hB h2 := by
  have hn := g.n
  have hq := g.qd
  have hf := f.1
  have bs : BS h h2 := f.bs.tr r.1
  have e : ∀ b i, b < am_n h → ¬ (0 ≤ b ∧ b < 1) → ¬ (dq ≤ b ∧ b < dq + 10) → ¬ (22 ≤ b ∧ b < 35) → am_m h2 b i = am_m h b i := fun b i hb z1 z2 z3 => (r.2 b i (by omega) (by omega)).trans (f.2.2.2.2 b hb (by omega) i)
  have em : ∀ b i, am_m (mixh h h2 0 1) b i = if 0 ≤ b ∧ b < 0 + 1 then am_m h2 b i else if b < am_n h then am_m h b i else am_m h2 b i := fun _ _ => rfl
  have fA : Fr 0 1 h (mixh h h2 0 1) := ⟨bs.1, bs.2.1, bs.2.2.1, bs.2.2.2, fun b hb z i => by rw [em, if_neg z, if_pos hb]⟩
  obtain ⟨hB, f1, f2⟩ := Fr.split (h := mixh h h2 0 1) (h2 := h2) (l1 := dq) (n1 := 10) (l2 := 22) (n2 := 13) ⟨Int.le_refl _, rfl, fun _ => rfl, fun _ _ => ⟨rfl, rfl⟩⟩ (fun b i hb z1 z2 => by
    rw [em]
    by_cases y : 0 ≤ b ∧ b < 0 + 1
    · rw [if_pos y]
    · rw [if_neg y]
      by_cases y2 : b < am_n h
      · rw [if_pos y2]
        exact e b i y2 (by omega) z1 (by omega)
      · rw [if_neg y2])
  exact ⟨_, hB, fA, f1, f2⟩
theorem GC.keep (g : GC h pp ss tt tl tp er q dq) (f : Fr 22 5 h h1) (r : RT h1 h2 dq) (e1 : am_m h2 0 1 = 0) (ee : am_m h2 0 2 = e2) : GC h2 pp ss tt 0 tp e2 q dq := by
  have hn := g.n
  have hq := g.qd
  have hf := f.1
  obtain ⟨hA, hB, fA, fB, fC⟩ := g.split f r
  have bs : BS h h2 := f.bs.tr r.1
  have e0 : ∀ i, ¬ (i = 1 ∨ i = 2) → am_m h2 0 i = am_m h 0 i := fun i z => (r.2 0 i (by omega) (by omega)).trans (f.2.2.2.2 0 (by omega) (by omega) i)
  have cA := g.c.fr fA (by omega) (by omega)
  have cB := cA.fr fB (by omega) (by omega)
  have cC := cB.fr fC (by omega) (by omega)
  have ctA := g.ct.fr g.c.Q fA (by omega)
  have ctB := ctA.fr cA.Q fB (by omega)
  have ctC := ctB.fr cB.Q fC (by omega)
  have bn := bs.1
  obtain ⟨q2, x⟩ := g.tr
  have xC : P3 h2 44 q2 := ((x.fr fA (by omega)).fr fB (by omega)).fr fC (by omega)
  have lo : am_m h2 35 2 = -1 := ((r.2 35 2 (by omega) (by omega)).trans (f.2.2.2.2 35 (by omega) (by omega) 2)).trans g.lo
  exact ⟨(bs.2.2.2 0 (by omega)).1.trans g.t0, (e0 _ (by decide)).trans g.f0, e1, ee, (e0 _ (by decide)).trans g.f3, (e0 _ (by decide)).trans g.f4, (e0 _ (by decide)).trans g.f5, (e0 _ (by decide)).trans g.f6, (e0 _ (by decide)).trans g.f7, (e0 _ (by decide)).trans g.f8, (e0 _ (by decide)).trans g.f9, (bs.2.2.2 1 (by omega)).1.trans g.t1, (bs.2.2.2 1 (by omega)).2.trans g.l1, cC, lo, ctC, ⟨q2, xC⟩, hq, g.hb, g.sb, by omega, ⟨Int.le_refl _, by decide⟩, fun i h0 h1 => absurd h1 (by omega)⟩
end
def E5 (p : Int × TT) : Prop := p.1 = 0 ∨ p.1 = 2 ∨ p.1 = 3 ∨ p.1 = 4 ∨ p.1 = 5
theorem E5.ite {c : Prop} [Decidable c] {a b : Int × TT} (x : E5 a) (y : E5 b) : E5 (if c then a else b) := by
  by_cases z : c
  · rw [if_pos z]
    exact x
  · rw [if_neg z]
    exact y
theorem E5.c0 {f : TT} : E5 (0, f) := Or.inl rfl
theorem E5.c2 {f : TT} : E5 (2, f) := Or.inr (Or.inl rfl)
theorem E5.c3 {f : TT} : E5 (3, f) := Or.inr (Or.inr (Or.inl rfl))
theorem E5.c4 {f : TT} : E5 (4, f) := Or.inr (Or.inr (Or.inr (Or.inl rfl)))
theorem E5.c5 {f : TT} : E5 (5, f) := Or.inr (Or.inr (Or.inr (Or.inr rfl)))
theorem stp_e5 {ro va : Nat → Int} {f : TT} {j : Nat} : E5 (stp ro va f j) := by
  unfold stp
  repeat' first | exact E5.c0 | exact E5.c2 | exact E5.c3 | exact E5.c4 | exact E5.c5 | apply E5.ite
theorem run_rg {ro va : Nat → Int} : ∀ (n j : Nat) (f : TT), (run ro va n j f).1 = 0 ∨ ((2 ≤ (run ro va n j f).1 ∧ (run ro va n j f).1 ≤ 5) ∧ (run ro va n j f).2.1 < j + n)
  | 0, _, _ => Or.inl rfl
  | n + 1, j, f => by
    show (if (stp ro va f j).1 = 0 then run ro va n (j + 1) (stp ro va f j).2 else ((stp ro va f j).1, j, f)).1 = 0 ∨ _ ∧ (if (stp ro va f j).1 = 0 then run ro va n (j + 1) (stp ro va f j).2 else ((stp ro va f j).1, j, f)).2.1 < _
    by_cases z : (stp ro va f j).1 = 0
    · have := run_rg n (j + 1) (stp ro va f j).2 (ro := ro) (va := va)
      have e : run ro va (n + 1) j f = run ro va n (j + 1) (stp ro va f j).2 := by
        show (if (stp ro va f j).1 = 0 then _ else _) = _
        rw [if_pos z]
      rw [if_pos z, e]
      rcases this with y | y
      · exact Or.inl y
      · exact Or.inr ⟨y.1, by omega⟩
    · have e : run ro va (n + 1) j f = ((stp ro va f j).1, j, f) := by
        show (if (stp ro va f j).1 = 0 then _ else _) = _
        rw [if_neg z]
      rw [if_neg z, e]
      refine Or.inr ⟨?_, by show j < j + (n + 1); omega⟩
      show 2 ≤ (stp ro va f j).1 ∧ (stp ro va f j).1 ≤ 5
      have := stp_e5 (ro := ro) (va := va) (f := f) (j := j)
      unfold E5 at this
      omega
/-- a list with an error, and at which token -/
def TE (tp : Int → Int) (tl e : Int) (pl : Nat) : Prop := (gAll (s_kd tp tl) 400 0 = .inl pl ∧ e = 1) ∨ ∃ E Bs R, gAll (s_kd tp tl) 400 0 = .inr (E, Bs, R) ∧ (run (roF R) (s_va tp tl) E 0 f00).1 = e ∧ e ≠ 0 ∧ (run (roF R) (s_va tp tl) E 0 f00).2.1 = pl
