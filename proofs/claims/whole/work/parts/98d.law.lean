/-! ===== the law: its wrappers ===== -/
theorem w227 {d : Nat} {h : AH} {l1 l2 l3 l4 l5 : Int} {K : AK} (t : am_t h 0 = 6) (b : am_call d 102 [(2, 0), (0, l1), (0, l2), (0, l3), (0, l4), (0, l5)] h (fun x v h2 => (x = 0 ∧ (am_t h2 87 = 22 ∧ am_l h2 87 = 1) ∧ K 0 0 (am_w h2 87 0 v)) ∨ (x = 1 ∧ K 0 1 h2))) : am_call (d + 1) 227 [(2, 0), (0, l1), (0, l2), (0, l3), (0, l4), (0, l5), (2, 87)] h K := by
  refine v227 ⟨⟨t, by decide, by decide⟩, am_call_mono (fun x v h2 z => ?_) b⟩
  rcases z with ⟨e, ⟨u1, u2⟩, k⟩ | ⟨e, k⟩
  · subst e
    exact v227_14 ⟨⟨u1, by decide, by omega⟩, k⟩
  · subst e
    exact v227_19 k
theorem w228 {d : Nat} {h : AH} {l1 : Int} {K : AK} (t : am_t h 0 = 6) (b : am_call d 104 [(2, 0), (0, l1)] h (fun x v h2 => (x = 0 ∧ (am_t h2 87 = 22 ∧ am_l h2 87 = 1) ∧ K 0 0 (am_w h2 87 0 v)) ∨ (x = 2 ∧ K 0 1 h2))) : am_call (d + 1) 228 [(2, 0), (0, l1), (2, 87)] h K := by
  refine v228 ⟨⟨t, by decide, by decide⟩, am_call_mono (fun x v h2 z => ?_) b⟩
  rcases z with ⟨e, ⟨u1, u2⟩, k⟩ | ⟨e, k⟩
  · subst e
    exact v228_7 ⟨⟨u1, by decide, by omega⟩, k⟩
  · subst e
    exact v228_12 k
theorem w229 {d : Nat} {h : AH} {l1 : Int} {K : AK} (t : am_t h 0 = 6) (b : am_call d 107 [(2, 0), (0, l1)] h (fun x v h2 => (x = 0 ∧ (am_t h2 87 = 22 ∧ am_l h2 87 = 1) ∧ K 0 0 (am_w h2 87 0 v)) ∨ (x = 3 ∧ K 0 1 h2))) : am_call (d + 1) 229 [(2, 0), (0, l1), (2, 87)] h K := by
  refine v229 ⟨⟨t, by decide, by decide⟩, am_call_mono (fun x v h2 z => ?_) b⟩
  rcases z with ⟨e, ⟨u1, u2⟩, k⟩ | ⟨e, k⟩
  · subst e
    exact v229_7 ⟨⟨u1, by decide, by omega⟩, k⟩
  · subst e
    exact v229_12 k
theorem w230 {d : Nat} {h : AH} {l1 l2 : Int} {K : AK} (t : am_t h 0 = 6) (b : am_call d 109 [(2, 0), (0, l1), (0, l2)] h (fun x v h2 => (x = 0 ∧ (am_t h2 87 = 22 ∧ am_l h2 87 = 1) ∧ K 0 0 (am_w h2 87 0 v)) ∨ (x = 3 ∧ K 0 1 h2))) : am_call (d + 1) 230 [(2, 0), (0, l1), (0, l2), (2, 87)] h K := by
  refine v230 ⟨⟨t, by decide, by decide⟩, am_call_mono (fun x v h2 z => ?_) b⟩
  rcases z with ⟨e, ⟨u1, u2⟩, k⟩ | ⟨e, k⟩
  · subst e
    exact v230_8 ⟨⟨u1, by decide, by omega⟩, k⟩
  · subst e
    exact v230_13 k
theorem w231 {d : Nat} {h : AH} {l1 l2 : Int} {K : AK} (t : am_t h 0 = 6) (b : am_call d 110 [(2, 0), (0, l1), (0, l2)] h (fun x v h2 => (x = 0 ∧ (am_t h2 87 = 22 ∧ am_l h2 87 = 1) ∧ K 0 0 (am_w h2 87 0 v)) ∨ (x = 3 ∧ K 0 1 h2))) : am_call (d + 1) 231 [(2, 0), (0, l1), (0, l2), (2, 87)] h K := by
  refine v231 ⟨⟨t, by decide, by decide⟩, am_call_mono (fun x v h2 z => ?_) b⟩
  rcases z with ⟨e, ⟨u1, u2⟩, k⟩ | ⟨e, k⟩
  · subst e
    exact v231_8 ⟨⟨u1, by decide, by omega⟩, k⟩
  · subst e
    exact v231_13 k
theorem w232 {d : Nat} {h : AH} {l1 : Int} {K : AK} (t : am_t h 0 = 6) (b : am_call d 111 [(2, 0), (0, l1)] h (fun x v h2 => (x = 0 ∧ (am_t h2 87 = 22 ∧ am_l h2 87 = 1) ∧ K 0 0 (am_w h2 87 0 v)) ∨ (x = 3 ∧ K 0 1 h2))) : am_call (d + 1) 232 [(2, 0), (0, l1), (2, 87)] h K := by
  refine v232 ⟨⟨t, by decide, by decide⟩, am_call_mono (fun x v h2 z => ?_) b⟩
  rcases z with ⟨e, ⟨u1, u2⟩, k⟩ | ⟨e, k⟩
  · subst e
    exact v232_7 ⟨⟨u1, by decide, by omega⟩, k⟩
  · subst e
    exact v232_12 k
theorem w233 {d : Nat} {h : AH} {l1 l2 : Int} {K : AK} (t : am_t h 0 = 6) (b : am_call d 112 [(2, 0), (0, l1), (0, l2)] h (fun x v h2 => (x = 0 ∧ (am_t h2 87 = 22 ∧ am_l h2 87 = 1) ∧ K 0 0 (am_w h2 87 0 v)) ∨ (x = 3 ∧ K 0 1 h2))) : am_call (d + 1) 233 [(2, 0), (0, l1), (0, l2), (2, 87)] h K := by
  refine v233 ⟨⟨t, by decide, by decide⟩, am_call_mono (fun x v h2 z => ?_) b⟩
  rcases z with ⟨e, ⟨u1, u2⟩, k⟩ | ⟨e, k⟩
  · subst e
    exact v233_8 ⟨⟨u1, by decide, by omega⟩, k⟩
  · subst e
    exact v233_13 k
theorem w234 {d : Nat} {h : AH} {l1 l2 : Int} {K : AK} (t : am_t h 0 = 6) (b : am_call d 113 [(2, 0), (0, l1), (0, l2)] h (fun x v h2 => (x = 0 ∧ (am_t h2 87 = 22 ∧ am_l h2 87 = 1) ∧ (v = 0 ∨ v = 1) ∧ K 0 0 (am_w h2 87 0 v)) ∨ (x = 3 ∧ K 0 1 h2))) : am_call (d + 1) 234 [(2, 0), (0, l1), (0, l2), (2, 87)] h K := by
  refine v234 ⟨⟨t, by decide, by decide⟩, am_call_mono (fun x v h2 z => ?_) b⟩
  rcases z with ⟨e, ⟨u1, u2⟩, vb, k⟩ | ⟨e, k⟩
  · subst e
    exact v234_8 ⟨fun y => by rw [y] at k; exact ⟨⟨u1, by decide, by omega⟩, k⟩, fun y => by rw [(by omega : v = 1)] at k; exact ⟨⟨u1, by decide, by omega⟩, k⟩⟩
  · subst e
    exact v234_20 k
theorem w235 {d : Nat} {h : AH} {l1 l2 : Int} {K : AK} (t : am_t h 0 = 6) (b : am_call d 114 [(2, 0), (0, l1), (0, l2)] h (fun x v h2 => (x = 0 ∧ (am_t h2 87 = 22 ∧ am_l h2 87 = 1) ∧ K 0 0 (am_w h2 87 0 v)) ∨ (x = 3 ∧ K 0 1 h2))) : am_call (d + 1) 235 [(2, 0), (0, l1), (0, l2), (2, 87)] h K := by
  refine v235 ⟨⟨t, by decide, by decide⟩, am_call_mono (fun x v h2 z => ?_) b⟩
  rcases z with ⟨e, ⟨u1, u2⟩, k⟩ | ⟨e, k⟩
  · subst e
    exact v235_8 ⟨⟨u1, by decide, by omega⟩, k⟩
  · subst e
    exact v235_13 k
theorem w236 {d : Nat} {h : AH} {l1 l2 l3 : Int} {K : AK} (t : am_t h 0 = 6) (b : am_call d 116 [(2, 0), (0, l1), (0, l2), (0, l3)] h (fun x v h2 => (x = 0 ∧ (am_t h2 87 = 22 ∧ am_l h2 87 = 1) ∧ (v = 0 ∨ v = 1) ∧ K 0 0 (am_w h2 87 0 v)) ∨ (x = 3 ∧ K 0 1 h2))) : am_call (d + 1) 236 [(2, 0), (0, l1), (0, l2), (0, l3), (2, 87)] h K := by
  refine v236 ⟨⟨t, by decide, by decide⟩, am_call_mono (fun x v h2 z => ?_) b⟩
  rcases z with ⟨e, ⟨u1, u2⟩, vb, k⟩ | ⟨e, k⟩
  · subst e
    exact v236_10 ⟨fun y => by rw [y] at k; exact ⟨⟨u1, by decide, by omega⟩, k⟩, fun y => by rw [(by omega : v = 1)] at k; exact ⟨⟨u1, by decide, by omega⟩, k⟩⟩
  · subst e
    exact v236_22 k
theorem w237 {d : Nat} {h : AH} {l1 l2 : Int} {K : AK} (t : am_t h 0 = 6) (b : am_call d 117 [(2, 0), (0, l1), (0, l2)] h (fun x v h2 => (x = 0 ∧ (am_t h2 87 = 22 ∧ am_l h2 87 = 1) ∧ K 0 0 (am_w h2 87 0 v)) ∨ (x = 3 ∧ K 0 1 h2) ∨ (x = 2 ∧ K 0 2 h2))) : am_call (d + 1) 237 [(2, 0), (0, l1), (0, l2), (2, 87)] h K := by
  refine v237 ⟨⟨t, by decide, by decide⟩, am_call_mono (fun x v h2 z => ?_) b⟩
  rcases z with ⟨e, ⟨u1, u2⟩, k⟩ | ⟨e, k⟩ | ⟨e, k⟩
  · subst e
    exact v237_8 ⟨⟨u1, by decide, by omega⟩, k⟩
  · subst e
    exact v237_13 k
  · subst e
    exact v237_17 k
theorem w238 {d : Nat} {h : AH} {l1 : Int} {K : AK} (t : am_t h 0 = 6) (b : am_call d 118 [(2, 0), (0, l1)] h (fun x v h2 => (x = 0 ∧ (am_t h2 87 = 22 ∧ am_l h2 87 = 1) ∧ K 0 0 (am_w h2 87 0 v)) ∨ (x = 2 ∧ K 0 1 h2))) : am_call (d + 1) 238 [(2, 0), (0, l1), (2, 87)] h K := by
  refine v238 ⟨⟨t, by decide, by decide⟩, am_call_mono (fun x v h2 z => ?_) b⟩
  rcases z with ⟨e, ⟨u1, u2⟩, k⟩ | ⟨e, k⟩
  · subst e
    exact v238_7 ⟨⟨u1, by decide, by omega⟩, k⟩
  · subst e
    exact v238_12 k
theorem w239 {d : Nat} {h : AH} {l1 : Int} {K : AK} (t : am_t h 0 = 6) (b : am_call d 119 [(2, 0), (0, l1)] h (fun x v h2 => (x = 0 ∧ (am_t h2 87 = 22 ∧ am_l h2 87 = 1) ∧ K 0 0 (am_w h2 87 0 v)) ∨ (x = 3 ∧ K 0 1 h2) ∨ (x = 1 ∧ K 0 2 h2))) : am_call (d + 1) 239 [(2, 0), (0, l1), (2, 87)] h K := by
  refine v239 ⟨⟨t, by decide, by decide⟩, am_call_mono (fun x v h2 z => ?_) b⟩
  rcases z with ⟨e, ⟨u1, u2⟩, k⟩ | ⟨e, k⟩ | ⟨e, k⟩
  · subst e
    exact v239_7 ⟨⟨u1, by decide, by omega⟩, k⟩
  · subst e
    exact v239_12 k
  · subst e
    exact v239_15 k
theorem w240 {d : Nat} {h : AH} {l1 : Int} {K : AK} (t : am_t h 0 = 6) (b : am_call d 120 [(2, 0), (0, l1)] h (fun x v h2 => (x = 0 ∧ (am_t h2 87 = 22 ∧ am_l h2 87 = 1) ∧ K 0 0 (am_w h2 87 0 v)) ∨ (x = 2 ∧ K 0 1 h2))) : am_call (d + 1) 240 [(2, 0), (0, l1), (2, 87)] h K := by
  refine v240 ⟨⟨t, by decide, by decide⟩, am_call_mono (fun x v h2 z => ?_) b⟩
  rcases z with ⟨e, ⟨u1, u2⟩, k⟩ | ⟨e, k⟩
  · subst e
    exact v240_7 ⟨⟨u1, by decide, by omega⟩, k⟩
  · subst e
    exact v240_12 k
theorem w241 {d : Nat} {h : AH} {l1 : Int} {K : AK} (t : am_t h 0 = 6) (b : am_call d 121 [(2, 0), (0, l1)] h (fun x v h2 => (x = 0 ∧ (am_t h2 87 = 22 ∧ am_l h2 87 = 1) ∧ K 0 0 (am_w h2 87 0 v)) ∨ (x = 3 ∧ K 0 1 h2))) : am_call (d + 1) 241 [(2, 0), (0, l1), (2, 87)] h K := by
  refine v241 ⟨⟨t, by decide, by decide⟩, am_call_mono (fun x v h2 z => ?_) b⟩
  rcases z with ⟨e, ⟨u1, u2⟩, k⟩ | ⟨e, k⟩
  · subst e
    exact v241_7 ⟨⟨u1, by decide, by omega⟩, k⟩
  · subst e
    exact v241_12 k
theorem w242 {d : Nat} {h : AH} {l1 l2 : Int} {K : AK} (t : am_t h 0 = 6) (b : am_call d 122 [(2, 0), (0, l1), (0, l2)] h (fun x v h2 => (x = 0 ∧ (am_t h2 87 = 22 ∧ am_l h2 87 = 1) ∧ K 0 0 (am_w h2 87 0 v)) ∨ (x = 2 ∧ K 0 1 h2) ∨ (x = 3 ∧ K 0 2 h2))) : am_call (d + 1) 242 [(2, 0), (0, l1), (0, l2), (2, 87)] h K := by
  refine v242 ⟨⟨t, by decide, by decide⟩, am_call_mono (fun x v h2 z => ?_) b⟩
  rcases z with ⟨e, ⟨u1, u2⟩, k⟩ | ⟨e, k⟩ | ⟨e, k⟩
  · subst e
    exact v242_8 ⟨⟨u1, by decide, by omega⟩, k⟩
  · subst e
    exact v242_13 k
  · subst e
    exact v242_17 k
theorem w243 {d : Nat} {h : AH} {l1 l2 : Int} {K : AK} (t : am_t h 0 = 6) (b : am_call d 123 [(2, 0), (0, l1), (0, l2)] h (fun x v h2 => (x = 0 ∧ (am_t h2 87 = 22 ∧ am_l h2 87 = 1) ∧ K 0 0 (am_w h2 87 0 v)) ∨ (x = 3 ∧ K 0 1 h2) ∨ (x = 2 ∧ K 0 2 h2))) : am_call (d + 1) 243 [(2, 0), (0, l1), (0, l2), (2, 87)] h K := by
  refine v243 ⟨⟨t, by decide, by decide⟩, am_call_mono (fun x v h2 z => ?_) b⟩
  rcases z with ⟨e, ⟨u1, u2⟩, k⟩ | ⟨e, k⟩ | ⟨e, k⟩
  · subst e
    exact v243_8 ⟨⟨u1, by decide, by omega⟩, k⟩
  · subst e
    exact v243_13 k
  · subst e
    exact v243_17 k
theorem w244 {d : Nat} {h : AH} {l1 : Int} {K : AK} (t : am_t h 0 = 6) (b : am_call d 124 [(2, 0), (0, l1)] h (fun x v h2 => (x = 0 ∧ (am_t h2 87 = 22 ∧ am_l h2 87 = 1) ∧ K 0 0 (am_w h2 87 0 v)) ∨ (x = 2 ∧ K 0 1 h2))) : am_call (d + 1) 244 [(2, 0), (0, l1), (2, 87)] h K := by
  refine v244 ⟨⟨t, by decide, by decide⟩, am_call_mono (fun x v h2 z => ?_) b⟩
  rcases z with ⟨e, ⟨u1, u2⟩, k⟩ | ⟨e, k⟩
  · subst e
    exact v244_7 ⟨⟨u1, by decide, by omega⟩, k⟩
  · subst e
    exact v244_12 k
/-! ===== the law: what holds between calls ===== -/
theorem GM.f87 {h h1 : AH} {pp ss : TT} {tt : Int → List Op} {tp : Int → Int} {tl er q : Int} (g : GM h pp ss tt tl tp er q) (f : Fr 87 1 h h1) : GM h1 pp ss tt tl tp er q := by
  have hq := g.qd
  have hn := g.n
  have hf := f.1
  have bq := g.c.Q.b
  exact ⟨g.c.fr f (by omega) (by omega) (by omega), (f.2.2.2.2 71 (by omega) (by omega) 9).trans g.lo, g.ct.fr g.c.Q f (by omega), g.ah.fr f (by omega), (f.2.2.2.2 53 (by omega) (by omega) 2).trans g.tl, (f.2.2.2.2 53 (by omega) (by omega) 3).trans g.er, hq, g.hb, g.sb, g.tb, by omega, fun i z1 z2 => (f.2.2.2.2 54 (by omega) (by omega) i).trans (g.tm i z1 z2)⟩
def LW (h0 h : AH) : Prop := am_sl h = am_sl h0 ∧ ∀ j, am_sx h j = am_sx h0 j
theorem LW.rf {h : AH} : LW h h := ⟨rfl, fun _ => rfl⟩
theorem LW.tr {h0 h1 h2 : AH} (a : LW h0 h1) (b : LW h1 h2) : LW h0 h2 := ⟨b.1.trans a.1, fun j => (b.2 j).trans (a.2 j)⟩
theorem Fr.lw {h h2 : AH} {lo n : Int} (f : Fr lo n h h2) : LW h h2 := ⟨f.2.1, f.2.2.1⟩
def LI (h : AH) (pp ss : TT) (tt : Int → List Op) (tl : Int) (tp : Int → Int) (er q dq r : Int) : Prop := GC h pp ss tt tl tp er q dq ∧ GM h pp ss tt tl tp er r ∧ TX h dq ∧ (am_t h 87 = 22 ∧ am_l h 87 = 1) ∧ ∀ i, 0 ≤ i → i < tl → 0 ≤ tp i ∧ tp i < 256
/-- the class has answered, the reference not yet -/
def LA (h0 h : AH) (pp ss : TT) (tt : Int → List Op) (tl : Int) (tp : Int → Int) (er : Int) (p2 s2 : TT) (t2 : Int → List Op) (l2 : Int) (tp2 : Int → Int) (e2 q dq r : Int) : Prop := GC h p2 s2 t2 l2 tp2 e2 q dq ∧ GM h pp ss tt tl tp er r ∧ TX h dq ∧ (am_t h 87 = 22 ∧ am_l h 87 = 1) ∧ LW h0 h
section
variable {h h2 h3 h6 : AH} {pp ss p2 s2 : TT} {tt t2 : Int → List Op} {tp tp2 : Int → Int} {tl l2 er e2 q dq q2 dq2 r r2 κ lo n v : Int}
theorem o2 (g : LI h pp ss tt tl tp er q dq r) (f : Fr lo n h h2) : am_t h2 87 = 22 ∧ am_l h2 87 = 1 := by
  have hn := g.2.1.n
  have a := f.2.2.2.1 87 (by omega)
  exact ⟨a.1.trans g.2.2.2.1.1, a.2.trans g.2.2.2.1.2⟩
theorem LAx (g : LI h pp ss tt tl tp er q dq r) (f : Fr lo n h h2) (ap : lo + n ≤ 53) (ap2 : 35 ≤ lo ∨ lo + n ≤ 2) (g2 : GC h2 p2 s2 t2 l2 tp2 e2 q dq) : LA h h2 pp ss tt tl tp er p2 s2 t2 l2 tp2 e2 q dq r := ⟨g2, g.2.1.fr f ap, g.2.2.1.fr f ap2, o2 g f, f.lw⟩
theorem LAw (a : LA h h2 pp ss tt tl tp er p2 s2 t2 l2 tp2 e2 q dq r) : LA h (am_w h2 87 0 v) pp ss tt tl tp er p2 s2 t2 l2 tp2 e2 q dq r ∧ am_m (am_w h2 87 0 v) 87 0 = v := by
  have f : Fr 87 1 h2 (am_w h2 87 0 v) := Fr.rf.w (by decide) (by decide)
  obtain ⟨a1, a2, a3, a4, a5⟩ := a
  exact ⟨⟨a1.fr f (by decide), a2.f87 f, a3.fr f (by decide), a4, a5.tr f.lw⟩, by rw [am_m_w, if_pos ⟨rfl, rfl⟩]⟩
theorem LA.mod (a : LA h h3 pp ss tt tl tp er p2 s2 t2 l2 tp2 e2 q dq r) (f : Fr 53 34 h3 h6) (g6 : GT h6 p2 s2 t2 l2 tp2 e2 r2 κ) (hr : ∀ i, 0 ≤ i → i < l2 → 0 ≤ tp2 i ∧ tp2 i < 256) : LI h6 p2 s2 t2 l2 tp2 e2 q dq r2 ∧ LW h h6 ∧ am_m h6 53 0 = κ ∧ am_m h6 87 0 = am_m h3 87 0 := by
  obtain ⟨a1, a2, a3, a4, a5⟩ := a
  have hn := a2.n
  have e := f.2.2.2.1 87 (by omega)
  exact ⟨⟨a1.fr f (by decide), g6.1, a3.fr f (by decide), ⟨e.1.trans a4.1, e.2.trans a4.2⟩, hr⟩, a5.tr f.lw, g6.2, f.2.2.2.2 87 (by omega) (by omega) 0⟩
theorem ix {i : Int} (hi : 0 ≤ i ∧ i + 6 ≤ am_sl h ∧ i < 100000) (L : LW h h3) (k : Int) (hk : 1 ≤ k ∧ k ≤ 5) : 0 ≤ w32 (i + k) ∧ w32 (i + k) < am_sl h3 := by
  rw [w32_id (by omega) (by omega), L.1]
  omega
end
theorem lcmp_eq {a b : Int} (e : a = b) : am_lcmp a b = 0 := by
  unfold am_lcmp
  rw [if_neg (by omega), if_pos e]
theorem fin0 {D : Nat} {h6 : AH} {v5 : Int} {W F : AH → Prop} (t : am_t h6 53 = 9) (e0 : am_m h6 53 0 = 0) (o : am_t h6 87 = 22 ∧ am_l h6 87 = 1) (eq : am_m h6 87 0 = v5) (w : W h6) : am_okx 0 ((am_t h6 53 = 9) ∧ am_call D 152 [(2, 53)] h6 (fun x7 v8 h9 => am_okx x7 (((v8 = 0) → (((0 : Int) = 0) → (am_t h9 87 = 22 ∧ 0 ≤ (0 : Int) ∧ 0 < am_l h9 87) ∧ ((am_lcmp (am_m h9 87 0) v5 = 0) → W h9) ∧ (¬ (am_lcmp (am_m h9 87 0) v5 = 0) → F h9)) ∧ (¬ ((0 : Int) = 0) → W h9)) ∧ (¬ (v8 = 0) → F h9)))) := by
  refine okx ⟨t, v152 ⟨t, ?_⟩⟩
  rw [e0]
  exact okx ⟨fun _ => ⟨fun _ => ⟨⟨o.1, by decide, by omega⟩, fun _ => w, fun y => absurd (lcmp_eq eq) y⟩, fun y => absurd rfl y⟩, fun y => absurd rfl y⟩
theorem fin0b {D : Nat} {h6 : AH} {v5 : Int} {W F : AH → Prop} (t : am_t h6 53 = 9) (e0 : am_m h6 53 0 = 0) (o : am_t h6 87 = 22 ∧ am_l h6 87 = 1) (eq : am_m h6 87 0 = v5) (hv : v5 = 0 ∨ v5 = 1) (w : W h6) : am_okx 0 ((am_t h6 53 = 9) ∧ am_call D 152 [(2, 53)] h6 (fun x7 v8 h9 => am_okx x7 (((v8 = 0) → (((0 : Int) = 0) → (am_t h9 87 = 22 ∧ 0 ≤ (0 : Int) ∧ 0 < am_l h9 87) ∧ ((v5 = 0) → ((am_lcmp (am_m h9 87 0) 0 = 0) → W h9) ∧ (¬ (am_lcmp (am_m h9 87 0) 0 = 0) → F h9)) ∧ (¬ (v5 = 0) → ((am_lcmp (am_m h9 87 0) 1 = 0) → W h9) ∧ (¬ (am_lcmp (am_m h9 87 0) 1 = 0) → F h9))) ∧ (¬ ((0 : Int) = 0) → W h9)) ∧ (¬ (v8 = 0) → F h9)))) := by
  refine okx ⟨t, v152 ⟨t, ?_⟩⟩
  rw [e0]
  exact okx ⟨fun _ => ⟨fun _ => ⟨⟨o.1, by decide, by omega⟩, fun z => ⟨fun _ => w, fun y => absurd (lcmp_eq (eq.trans z)) y⟩, fun z => ⟨fun _ => w, fun y => absurd (lcmp_eq (eq.trans (by omega))) y⟩⟩, fun y => absurd rfl y⟩, fun y => absurd rfl y⟩
theorem fin1 {D : Nat} {h6 : AH} {κ : Int} {X : AH → Prop} {W F : AH → Prop} (hk : κ ≠ 0) (t : am_t h6 53 = 9) (e0 : am_m h6 53 0 = κ) (w : W h6) : am_okx 0 ((am_t h6 53 = 9) ∧ am_call D 152 [(2, 53)] h6 (fun x7 v8 h9 => am_okx x7 (((v8 = κ) → ((κ = 0) → X h9) ∧ (¬ (κ = 0) → W h9)) ∧ (¬ (v8 = κ) → F h9)))) := by
  refine okx ⟨t, v152 ⟨t, ?_⟩⟩
  rw [e0]
  exact okx ⟨fun _ => ⟨fun y => absurd y hk, fun _ => w⟩, fun y => absurd rfl y⟩
theorem t5_rg {tp : Int → Int} {tl a b c e f : Int} (hr : ∀ i, 0 ≤ i → i < tl → 0 ≤ tp i ∧ tp i < 256) (h0 : 0 ≤ tl) : ∀ i, 0 ≤ i → i < tl + 20 → 0 ≤ s_t5 tp tl a b c e f i ∧ s_t5 tp tl a b c e f i < 256 := by
  intro i i0 i1
  by_cases z : i < tl
  · rw [t5_lo z]
    exact hr i i0 z
  · have := t5_at (tp := tp) (tl := tl) (a := a) (b := b) (c := c) (e := e) (f := f) (l := i - tl) (by omega) (by omega)
    rw [show tl + (i - tl) = i by omega] at this
    rw [this]
    rw [am_and255]
    omega
def NX (d : Nat) (i : Int) (h : AH) (y : Int) (nc ns : Nat) : Prop := ∀ (h2 : AH) (pp ss : TT) (tt : Int → List Op) (tl : Int) (tp : Int → Int) (er q dq r : Int) (y5 y6 y7 y8 : AV) (nc2 ns2 : Nat), LI h2 pp ss tt tl tp er q dq r → LW h h2 → ss 0 0 ≤ y + 60 → nc2 ≤ nc + 110 → ns2 ≤ ns + 1400 → WP (d + 1) 245 (1448, [(4, 0), (2, 0), (2, 53), (2, 87), (0, i), y5, y6, y7, y8], [], h2, nc2, ns2) am_K0
