/-! ===== the reference: what is told so far ===== -/
def FN (h0 h : AH) (q : Int) : Prop := (am_n h0 ≤ am_n h ∧ am_sl h = am_sl h0 ∧ (∀ j, am_sx h j = am_sx h0 j) ∧ (∀ b, b < am_n h0 → am_t h b = am_t h0 b ∧ am_l h b = am_l h0 b)) ∧ ∀ b j, b < am_n h0 → ¬ (b = 53 ∧ j = 10) → ¬ b = 59 → ¬ (b = q ∧ (j = 0 ∨ j = 2 ∨ j = 6 ∨ j = 8 ∨ j = 9)) → ¬ (q + 1 ≤ b ∧ b ≤ q + 6) → am_m h b j = am_m h0 b j
theorem FN.rf {h : AH} {q : Int} : FN h h q := ⟨⟨Int.le_refl _, rfl, fun _ => rfl, fun _ _ => ⟨rfl, rfl⟩⟩, fun _ _ _ _ _ _ _ => rfl⟩
theorem FN.w {h0 h : AH} {q b i v : Int} (x : FN h0 h q) (hb : (b = 53 ∧ i = 10) ∨ b = 59 ∨ (b = q ∧ (i = 0 ∨ i = 2 ∨ i = 6 ∨ i = 8 ∨ i = 9)) ∨ (q + 1 ≤ b ∧ b ≤ q + 6)) : FN h0 (am_w h b i v) q := by
  refine ⟨x.1, fun c j z z1 z2 z3 z4 => ?_⟩
  rw [am_m_w, if_neg (by omega)]
  exact x.2 c j z z1 z2 z3 z4
theorem FN.q2 {h0 h : AH} {q : Int} (x : FN h0 h q) : FQ2 h0 h q := ⟨x.1, fun b j z0 z1 z2 z3 z4 => x.2 b j z0 (by omega) (by omega) (by omega) (by omega)⟩
theorem FN.tq {h0 h : AH} {q : Int} (x : FN h0 h q) (hq : 88 ≤ q) (hn : q + 10 < am_n h0) : TQ h0 h := ⟨fun b hb => x.1.2.2.2 b (by omega), fun j hj => x.2 53 j (by omega) (by omega) (by omega) (by omega) (by omega), fun b i hb => x.2 b i (by omega) (by omega) (by omega) (by omega) (by omega)⟩
def RD2 (as off : Int) (b : Nat) : Prop := (as = 5 ∧ off = 1 ∧ b = 4) ∨ (as = 6 ∧ off = 2 ∧ b = 9) ∨ (as = 9 ∧ off = 3 ∧ b = 5) ∨ (as = 7 ∧ off = 4 ∧ b = 6) ∨ (as = 11 ∧ off = 6 ∧ b = 7)
def NC2 (as c : Int) : Prop := (as = 1 ∧ c = 0) ∨ (as = 2 ∧ c = 2) ∨ (as = 3 ∧ c = 6) ∨ (as = 4 ∧ c = 9)
def MK (h0 : AH) (q : Int) (ro : Nat → Int) (h : AH) (j : Nat) (f : TT) : Prop := FN h0 h q ∧ (∀ as c, NC2 as c → am_m h q c = (cn ro as j : Int)) ∧ am_m h q 8 = f 8 0 ∧ (∀ as off b, RD2 as off b → ∀ i : Nat, i < cn ro as j → am_m h (q + off) (i : Int) = f b (i : Int)) ∧ (∀ v : Nat, v < 12 → (0 ≤ am_m h (q + 5) (v : Int) ∧ am_m h (q + 5) (v : Int) < 4096) ∧ ∀ p, 0 ≤ p → p < 12 → am_and (am_shr (am_m h (q + 5) (v : Int)) p) 1 = f 10 (12 * (v : Int) + p)) ∧ ∀ k : Nat, k < j → (ro k = 12 ∨ ro k = 13) → am_m h 59 (k : Int) = f 11 (k : Int)
section
variable {d D : Nat} {h0 h : AH} {q : Int} {tp : Int → Int} {tl : Int} {kd ro va fr : Nat → Int} {mn : Nat → Nat} {E j : Nat} {f : TT} {K : AK}
theorem MK.fn (x : MK h0 q ro h j f) : FN h0 h q := x.1
theorem MK.cs (x : MK h0 q ro h j f) : ∀ as c, NC2 as c → am_m h q c = (cn ro as j : Int) := x.2.1
theorem MK.bg (x : MK h0 q ro h j f) : am_m h q 8 = f 8 0 := x.2.2.1
theorem MK.rd (x : MK h0 q ro h j f) : ∀ as off b, RD2 as off b → ∀ i : Nat, i < cn ro as j → am_m h (q + off) (i : Int) = f b (i : Int) := x.2.2.2.1
theorem MK.lk (x : MK h0 q ro h j f) : ∀ v : Nat, v < 12 → (0 ≤ am_m h (q + 5) (v : Int) ∧ am_m h (q + 5) (v : Int) < 4096) ∧ ∀ p, 0 ≤ p → p < 12 → am_and (am_shr (am_m h (q + 5) (v : Int)) p) 1 = f 10 (12 * (v : Int) + p) := x.2.2.2.2.1
theorem MK.me (x : MK h0 q ro h j f) : ∀ k : Nat, k < j → (ro k = 12 ∨ ro k = 13) → am_m h 59 (k : Int) = f 11 (k : Int) := x.2.2.2.2.2
/-- a meaning of a token not yet looked at, or the place, is written -/
theorem MK.m0 (x : MK h0 q ro h j f) (hq : 88 ≤ q) {v : Int} : MK h0 q ro (am_w h 59 (j : Int) v) j f := by
  have e : ∀ b i, b ≠ 59 → am_m (am_w h 59 (j : Int) v) b i = am_m h b i := fun b i z => by rw [am_m_w, if_neg (fun y => z y.1)]
  exact ⟨x.fn.w (Or.inr (Or.inl rfl)), fun as c hc => (e _ _ (by omega)).trans (x.cs as c hc), (e _ _ (by omega)).trans x.bg, fun as off b hr i hi => (e _ _ (by unfold RD2 at hr; omega)).trans (x.rd as off b hr i hi), fun v hv => by rw [e _ _ (by omega)]; exact x.lk v hv, fun k hk er => by rw [am_m_w, if_neg (by omega)]; exact x.me k hk er⟩
theorem MK.at (x : MK h0 q ro h j f) (hq : 88 ≤ q) {v : Int} : MK h0 q ro (am_w h 53 10 v) j f := by
  have e : ∀ b i, b ≠ 53 → am_m (am_w h 53 10 v) b i = am_m h b i := fun b i z => by rw [am_m_w, if_neg (fun y => z y.1)]
  exact ⟨x.fn.w (Or.inl ⟨rfl, rfl⟩), fun as c hc => (e _ _ (by omega)).trans (x.cs as c hc), (e _ _ (by omega)).trans x.bg, fun as off b hr i hi => (e _ _ (by unfold RD2 at hr; omega)).trans (x.rd as off b hr i hi), fun v hv => by rw [e _ _ (by omega)]; exact x.lk v hv, fun k hk er => (e _ _ (by decide)).trans (x.me k hk er)⟩
theorem MK.row {as off v : Int} {b : Nat} (hr : RD2 as off b) (x : MK h0 q ro h j f) (hq : 88 ≤ q) (er : ro j = as) : MK h0 q ro (am_w h (q + off) (cn ro as j : Int) v) (j + 1) (su f b (cn ro as j : Int) v) := by
  have hr' := hr
  unfold RD2 at hr
  have e : ∀ c i, c ≠ q + off → am_m (am_w h (q + off) (cn ro as j : Int) v) c i = am_m h c i := fun c i z => by rw [am_m_w, if_neg (fun y => z y.1)]
  have sn : ∀ (c : Nat) i, c ≠ b → su f b (cn ro as j : Int) v c i = f c i := fun c i z => su_ne (fun y => z y.1)
  refine ⟨x.fn.w (by omega), fun a c hc => ?_, ?_, fun a o c hc i hi => ?_, fun p hp => ?_, fun k hk ek => ?_⟩
  · rw [e _ _ (by omega), cnE (by unfold NC2 at hc; omega)]
    exact x.cs a c hc
  · rw [e _ _ (by omega), sn _ _ (by omega)]
    exact x.bg
  · by_cases y : a = as
    · subst y
      have eo : o = off ∧ c = b := by
        unfold RD2 at hc
        omega
      obtain ⟨eo1, eo2⟩ := eo
      subst eo1
      subst eo2
      rw [cnS er] at hi
      by_cases yi : i = cn ro a j
      · rw [yi, am_m_w, if_pos ⟨rfl, rfl⟩, su_eq]
      · rw [am_m_w, if_neg (by omega), su_ne (by omega)]
        exact x.rd a o c hc i (by omega)
    · rw [cnE (by omega)] at hi
      rw [e _ _ (by unfold RD2 at hc; omega), sn _ _ (by unfold RD2 at hc; omega)]
      exact x.rd a o c hc i hi
  · rw [e _ _ (by omega)]
    refine ⟨(x.lk p hp).1, fun v' h0 h1 => ?_⟩
    rw [sn _ _ (by omega)]
    exact (x.lk p hp).2 v' h0 h1
  · have kj : k ≠ j := fun y => by
      rw [y] at ek
      omega
    rw [e _ _ (by omega), sn _ _ (by omega)]
    exact x.me k (by omega) ek
theorem MK.nx (x : MK h0 q ro h j f) {f2 : TT} (hf : ∀ c i, c ≠ 11 → c ≠ 8 → f2 c i = f c i) (h8 : am_m h q 8 = f2 8 0) (z : (ro j = 12 ∨ ro j = 13) → am_m h 59 (j : Int) = f2 11 (j : Int)) (hz : ∀ k : Nat, k < j → f2 11 (k : Int) = f 11 (k : Int)) (er : ro j = 0 ∨ ro j = 8 ∨ 12 ≤ ro j) : MK h0 q ro h (j + 1) f2 := by
  refine ⟨x.fn, fun a c hc => ?_, h8, fun a o c hc i hi => ?_, fun p hp => ?_, fun k hk ek => ?_⟩
  · rw [cnE (by unfold NC2 at hc; omega)]
    exact x.cs a c hc
  · rw [cnE (by unfold RD2 at hc; omega)] at hi
    rw [hf _ _ (by unfold RD2 at hc; omega) (by unfold RD2 at hc; omega)]
    exact x.rd a o c hc i hi
  · refine ⟨(x.lk p hp).1, fun v' h0 h1 => ?_⟩
    rw [hf _ _ (by decide) (by decide)]
    exact (x.lk p hp).2 v' h0 h1
  · by_cases y : k = j
    · rw [y] at ek ⊢
      exact z ek
    · rw [hz k (by omega)]
      exact x.me k (by omega) ek
theorem MK.w8 (x : MK h0 q ro h j f) (hq : 88 ≤ q) {v : Int} : MK h0 q ro (am_w h q 8 v) j (su f 8 0 v) := by
  have e : ∀ b i, ¬ (b = q ∧ i = 8) → am_m (am_w h q 8 v) b i = am_m h b i := fun b i z => by rw [am_m_w, if_neg z]
  have sn : ∀ (c : Nat) i, c ≠ 8 → su f 8 0 v c i = f c i := fun c i z => su_ne (fun y => z y.1)
  refine ⟨x.fn.w (by omega), fun as c hc => (e _ _ (by unfold NC2 at hc; omega)).trans (x.cs as c hc), by rw [am_m_w, if_pos ⟨rfl, rfl⟩, su_eq], fun as off b hr i hi => ?_, fun p hp => ?_, fun k hk ek => ?_⟩
  · rw [e _ _ (by unfold RD2 at hr; omega), sn _ _ (by unfold RD2 at hr; omega)]
    exact x.rd as off b hr i hi
  · rw [e _ _ (by omega)]
    refine ⟨(x.lk p hp).1, fun v' h0 h1 => ?_⟩
    rw [sn _ _ (by decide)]
    exact (x.lk p hp).2 v' h0 h1
  · rw [e _ _ (by omega), sn _ _ (by decide)]
    exact x.me k hk ek
theorem MK.cnt {as c : Int} {k : Nat} (hc : NC2 as c) (hk : k < 4) (x : MK h0 q ro h j f) (hq : 88 ≤ q) (er : ro j = as) {v : Int} : MK h0 q ro (am_w h q c ((cn ro as j + 1 : Nat) : Int)) (j + 1) (su f k 0 v) := by
  have hc' := hc
  unfold NC2 at hc
  have e : ∀ b2 i, ¬ (b2 = q ∧ i = c) → am_m (am_w h q c ((cn ro as j + 1 : Nat) : Int)) b2 i = am_m h b2 i := fun b2 i z2 => by rw [am_m_w, if_neg z2]
  have sn : ∀ (c : Nat) i, 4 ≤ c → su f k 0 v c i = f c i := fun c i z => su_ne (fun y => by omega)
  refine ⟨x.fn.w (by omega), fun a c2 hc2 => ?_, ?_, fun a o c2 hc2 i hi => ?_, fun p hp => ?_, fun i hi ei => ?_⟩
  · unfold NC2 at hc2
    by_cases y : a = as
    · subst y
      have : c2 = c := by omega
      subst this
      rw [am_m_w, if_pos ⟨rfl, rfl⟩, cnS er]
    · rw [e _ _ (by omega), cnE (by omega)]
      exact x.cs a c2 hc2
  · rw [e _ _ (by omega), sn _ _ (by decide)]
    exact x.bg
  · rw [cnE (by unfold RD2 at hc2; omega)] at hi
    rw [e _ _ (by unfold RD2 at hc2; omega), sn _ _ (by unfold RD2 at hc2; omega)]
    exact x.rd a o c2 hc2 i hi
  · rw [e _ _ (by omega)]
    refine ⟨(x.lk p hp).1, fun v' h0 h1 => ?_⟩
    rw [sn _ _ (by decide)]
    exact (x.lk p hp).2 v' h0 h1
  · have kj : i ≠ j := fun y => by
      rw [y] at ei
      omega
    rw [e _ _ (by omega), sn _ _ (by decide)]
    exact x.me i (by omega) ei
theorem MK.w5 (x : MK h0 q ro h j f) (hq : 88 ≤ q) {v : Nat} {y x1 p : Int} (p0 : 0 ≤ p ∧ p < 12) (v1 : v < 12) (yr : 0 ≤ y ∧ y < 4096) (hy : ∀ m, 0 ≤ m → m < 12 → am_and (am_shr y m) 1 = if m = p then x1 else am_and (am_shr (am_m h (q + 5) (v : Int)) m) 1) (er : ro j = 10) : MK h0 q ro (am_w h (q + 5) (v : Int) y) (j + 1) (su f 10 (12 * (v : Int) + p) x1) := by
  have e : ∀ b i, b ≠ q + 5 → am_m (am_w h (q + 5) (v : Int) y) b i = am_m h b i := fun b i z => by rw [am_m_w, if_neg (fun y => z y.1)]
  have sn : ∀ (c : Nat) i, c ≠ 10 → su f 10 (12 * (v : Int) + p) x1 c i = f c i := fun c i z => su_ne (fun y => z y.1)
  refine ⟨x.fn.w (by omega), fun as c hc => ?_, (e _ _ (by omega)).trans (x.bg.trans (sn _ _ (by decide)).symm), fun as off b hr i hi => ?_, fun p2 hp => ?_, fun k hk ek => ?_⟩
  · rw [e _ _ (by omega), cnE (by unfold NC2 at hc; omega)]
    exact x.cs as c hc
  · rw [cnE (by unfold RD2 at hr; omega)] at hi
    rw [e _ _ (by unfold RD2 at hr; omega), sn _ _ (by unfold RD2 at hr; omega)]
    exact x.rd as off b hr i hi
  · have fn := x.lk p2 hp
    by_cases yp : p2 = v
    · subst yp
      rw [am_m_w, if_pos ⟨rfl, rfl⟩]
      refine ⟨yr, fun m h0 h1 => ?_⟩
      rw [hy m h0 h1]
      by_cases ym : m = p
      · subst ym
        rw [if_pos rfl, su_eq]
      · rw [if_neg ym, su_ne (by omega)]
        exact fn.2 m h0 h1
    · rw [am_m_w, if_neg (by omega)]
      refine ⟨fn.1, fun m h0 h1 => ?_⟩
      rw [su_ne (by omega)]
      exact fn.2 m h0 h1
  · have kj : k ≠ j := fun y => by
      rw [y] at ek
      omega
    rw [e _ _ (by omega), sn _ _ (by decide)]
    exact x.me k (by omega) ek
/-- what a step asks of the continuation -/
def KM (h0 : AH) (q : Int) (ro va : Nat → Int) (j : Nat) (f : TT) (K : AK) : Prop := ((stp ro va f j).1 = 0 → ∀ h2, MK h0 q ro h2 (j + 1) (stp ro va f j).2 → am_m h2 53 10 = (j : Int) → K 0 0 h2) ∧ ((stp ro va f j).1 ≠ 0 → ∀ h2, FN h0 h2 q → am_m h2 53 10 = (j : Int) → K 0 (stp ro va f j).1 h2)
theorem KM.bad {c : Int} (k : KM h0 q ro va j f K) (e : stp ro va f j = (c, f)) (hc : c ≠ 0) {h2 : AH} (fk : FN h0 h2 q) (po : am_m h2 53 10 = (j : Int)) : K 0 c h2 := by
  have k2 := k.2
  rw [e] at k2
  exact k2 hc h2 fk po
theorem KM.good {f2 : TT} (k : KM h0 q ro va j f K) (e : stp ro va f j = (0, f2)) {h2 : AH} (x : MK h0 q ro h2 (j + 1) f2) (po : am_m h2 53 10 = (j : Int)) : K 0 0 h2 := by
  have k2 := k.1
  rw [e] at k2
  exact k2 rfl h2 x po
theorem KM.ok (k : KM h0 q ro va j f K) : KM h0 q ro va j f (fun x v h => am_okx x (K 0 v h)) := ⟨fun e h2 x p => okx (k.1 e h2 x p), fun e h2 x p => okx (k.2 e h2 x p)⟩
/-! its methods -/
theorem GQ.hh (g : GQ h0 q tp tl kd ro va fr mn E) (x : FN h0 h q) : am_t h 53 = 9 ∧ (am_m h 53 8 = 58 ∧ am_t h 58 = 20 ∧ am_l h 58 = 401) ∧ (am_m h 53 9 = 59 ∧ am_t h 59 = 20 ∧ am_l h 59 = 401) ∧ am_m h 53 13 = q ∧ am_t h q = 7 := by
  have qb := g.qb
  have qn := g.p.b
  have y := x.tq qb qn
  exact ⟨(y.1 53 (by decide)).1.trans g.t, ⟨(y.2.1 8 (by omega)).trans g.f8, (y.1 58 (by decide)).1.trans g.t58, (y.1 58 (by decide)).2.trans g.l58⟩, ⟨(y.2.1 9 (by omega)).trans g.f9, (y.1 59 (by decide)).1.trans g.t59, (y.1 59 (by decide)).2.trans g.l59⟩, (y.2.1 13 (by omega)).trans g.f13, (x.1.2.2.2 q (by omega)).1.trans g.p.t⟩
theorem GQ.rows (g : GQ h0 q tp tl kd ro va fr mn E) (x : FN h0 h q) : (am_m h q 1 = q + 1 ∧ am_t h (q + 1) = 20 ∧ am_l h (q + 1) = 4) ∧ (am_m h q 3 = q + 2 ∧ am_t h (q + 2) = 20 ∧ am_l h (q + 2) = 12) ∧ (am_m h q 4 = q + 3 ∧ am_t h (q + 3) = 20 ∧ am_l h (q + 3) = 12) ∧ (am_m h q 5 = q + 4 ∧ am_t h (q + 4) = 20 ∧ am_l h (q + 4) = 12) ∧ (am_m h q 7 = q + 5 ∧ am_t h (q + 5) = 20 ∧ am_l h (q + 5) = 12) ∧ am_m h q 11 = q + 6 ∧ am_t h (q + 6) = 20 ∧ am_l h (q + 6) = 12 := by
  have qb := g.qb
  have p := g.p
  have qn := p.b
  have e : ∀ j, (j = 1 ∨ j = 3 ∨ j = 4 ∨ j = 5 ∨ j = 7 ∨ j = 11) → am_m h q j = am_m h0 q j := fun j hj => x.2 q j (by omega) (by omega) (by omega) (by omega) (by omega)
  have tt : ∀ b, b ≤ q + 10 → am_t h b = am_t h0 b ∧ am_l h b = am_l h0 b := fun b hb => x.1.2.2.2 b (by omega)
  exact ⟨⟨(e _ (by decide)).trans p.f1, (tt _ (by omega)).1.trans p.t1, (tt _ (by omega)).2.trans p.l1⟩, ⟨(e _ (by decide)).trans p.f3, (tt _ (by omega)).1.trans p.t2, (tt _ (by omega)).2.trans p.l2⟩, ⟨(e _ (by decide)).trans p.f4, (tt _ (by omega)).1.trans p.t3, (tt _ (by omega)).2.trans p.l3⟩, ⟨(e _ (by decide)).trans p.f5, (tt _ (by omega)).1.trans p.t4, (tt _ (by omega)).2.trans p.l4⟩, ⟨(e _ (by decide)).trans p.f7, (tt _ (by omega)).1.trans p.t5, (tt _ (by omega)).2.trans p.l5⟩, (e _ (by decide)).trans p.f11, (tt _ (by omega)).1.trans p.t6, (tt _ (by omega)).2.trans p.l6⟩
end
