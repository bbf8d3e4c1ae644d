/-! ===== the list, taught to the jury ===== -/
theorem FX.fr {lo n : Int} {h h2 : AH} (f : Fr lo n h h2) : FX (fun b => lo ≤ b ∧ b < lo + n) h h2 := f
theorem FX.mo {R R2 : Int → Prop} {h h2 : AH} (f : FX R h h2) (i : ∀ b, R b → R2 b) : FX R2 h h2 := ⟨f.1, f.2.1, f.2.2.1, f.2.2.2.1, fun b hb hn => f.2.2.2.2 b hb (fun r => hn (i b r))⟩
theorem FX.al {R : Int → Prop} {h h1 : AH} {t : Nat} {n : Int} {f : Int → Int} (x : FX R h h1) : FX R h (am_a h1 t n f) := x.fp (u := am_n h1) (v := am_n h1) FP.rf.al (by have := x.1; omega) (by have := x.1; omega)
theorem TS.fx {R : Int → Prop} {s w : Int} {h h2 : AH} {bs : List Int} (x : TS h s w bs) (f : FX R h h2) (hs : ¬ R s) (hw : ¬ R w) : TS h2 s w bs := by
  obtain ⟨f1, f2, f3, f4, f5⟩ := f
  have s1 := x.s1
  have w1 := x.w1
  obtain ⟨t1, l1⟩ := f4 s s1
  obtain ⟨t2, l2⟩ := f4 w w1
  exact ⟨by rw [t1]; exact x.t, (f5 s s1 hs 0).trans x.v0, (f5 s s1 hs 1).trans x.c, by rw [t2]; exact x.wt, l2.trans x.l, by omega, by omega, x.ns, fun i hi => (f5 w w1 hw _).trans (x.b i hi)⟩
/-- five numbers of which j bytes are pushed -/
def W5 (h : AH) (u : Int) (B : Int → Int) (j : Int) : Prop := (am_t h u = 20 ∧ am_l h u = 5) ∧ ∀ q, 0 ≤ q → q < 5 → ∃ x, am_m h u q = wq x B q (min 4 (j - 4 * q)).toNat
def TT5 (h : AH) (pp ss : TT) (tt : Int → List Op) (tl : Int) (tp : Int → Int) (er q dq u s w : Int) (bs : List Int) : Prop := (GC h pp ss tt tl tp er q dq) ∧ (TX h dq) ∧ (TS h s w bs) ∧ ((53 ≤ s ∧ 53 ≤ w) ∧ (s < u ∧ w < u ∧ u < am_n h))
theorem TT5.g {h : AH} {pp ss : TT} {tt : Int → List Op} {tl : Int} {tp : Int → Int} {er q dq u s w : Int} {bs : List Int} (x : TT5 h pp ss tt tl tp er q dq u s w bs) : GC h pp ss tt tl tp er q dq := x.1
theorem TT5.x {h : AH} {pp ss : TT} {tt : Int → List Op} {tl : Int} {tp : Int → Int} {er q dq u s w : Int} {bs : List Int} (x : TT5 h pp ss tt tl tp er q dq u s w bs) : TX h dq := x.2.1
theorem TT5.s {h : AH} {pp ss : TT} {tt : Int → List Op} {tl : Int} {tp : Int → Int} {er q dq u s w : Int} {bs : List Int} (x : TT5 h pp ss tt tl tp er q dq u s w bs) : TS h s w bs := x.2.2.1
theorem TT5.b {h : AH} {pp ss : TT} {tt : Int → List Op} {tl : Int} {tp : Int → Int} {er q dq u s w : Int} {bs : List Int} (x : TT5 h pp ss tt tl tp er q dq u s w bs) : (53 ≤ s ∧ 53 ≤ w) ∧ (s < u ∧ w < u ∧ u < am_n h) := x.2.2.2
section
variable {d : Nat} {pp ss : TT} {tt : Int → List Op} {er q dq u s w : Int} {bs : List Int} {K : AK}
theorem t23 {h0 : AH} {tl i : Int} {tp : Int → Int} (hb : ∀ i : Nat, i < bs.length → 0 ≤ bs.getD i 0 ∧ bs.getD i 0 < 128) (hl : bs.length ≤ 1900) (hi : 0 ≤ i ∧ i < 1900) {nc ns : Nat} (hc : nc + 1 ≤ 700) (hs : ns + 6 ≤ 4000) (htl : tl ≤ 1980)
    (k : ∀ h F0 F1 F2 F3 F4, FX (fun b => 0 ≤ b) h0 h → TT5 h pp ss tt (tl + 20) (s_t5 tp tl F0 F1 F2 F3 F4) er q dq u s w bs → (am_t h u = 20 ∧ am_l h u = 5) → (∀ k, 0 ≤ k → k < 4 → s_byte F0 k = tB bs (i + k)) → (∀ k, 0 ≤ k → k < 4 → s_byte F1 k = tB bs (i + 4 + k)) → (∀ k, 0 ≤ k → k < 4 → s_byte F2 k = tB bs (i + 8 + k)) → (∀ k, 0 ≤ k → k < 4 → s_byte F3 k = tB bs (i + 12 + k)) → (∀ k, 0 ≤ k → k < 4 → s_byte F4 k = tB bs (i + 16 + k)) → WP (d + 5) 175 (12, [(2, 0), (2, s), (2, u), (0, i + 20), (0, 20)], [], h, nc + 1, ns + 6) K) :
    ∀ (n j : Nat), j + n = 20 → ∀ h, FX (fun b => 0 ≤ b) h0 h → TT5 h pp ss tt tl tp er q dq u s w bs → W5 h u (fun t => tB bs (i + (t.toNat : Int))) (j : Int) → WP (d + 5) 175 (23, [(2, 0), (2, s), (2, u), (0, i), (0, (j : Int))], [], h, nc, ns) K := by
  intro n
  have hB := tB_rg hb i hi.1
  induction n with
  | zero =>
    intro j hj h f T W
    have e : j = 20 := by omega
    subst e
    obtain ⟨⟨w1, w2⟩, w3⟩ := W
    have Tb := T.b
    refine v175_23 ⟨fun y => absurd y (by decide), fun _ => ?_⟩
    obtain ⟨x0, e0⟩ := w3 0 (by decide) (by decide)
    obtain ⟨x1, e1⟩ := w3 1 (by decide) (by decide)
    obtain ⟨x2, e2⟩ := w3 2 (by decide) (by decide)
    obtain ⟨x3, e3⟩ := w3 3 (by decide) (by decide)
    obtain ⟨x4, e4⟩ := w3 4 (by decide) (by decide)
    rw [w1, w2, T.g.t0]
    have b0 := wq_by (x := x0) (q := 0) hB
    have b1 := wq_by (x := x1) (q := 1) hB
    have b2 := wq_by (x := x2) (q := 2) hB
    have b3 := wq_by (x := x3) (q := 3) hB
    have b4 := wq_by (x := x4) (q := 4) hB
    refine ⟨⟨rfl, by decide, by decide⟩, ⟨rfl, by decide, by decide⟩, ⟨rfl, by decide, by decide⟩, ⟨rfl, by decide, by decide⟩, ⟨rfl, by decide, by decide⟩, ⟨rfl, hc, hs⟩, ?_⟩
    rw [e0, e1, e2, e3, e4]
    refine c102 T.g (fun _ h2 f2 g2 => okx ?_) (fun y => absurd htl y)
    rw [show w32 (i + 20) = i + 20 from w32_id (by omega) (by omega)]
    refine k h2 _ _ _ _ _ (f.tr (FX.mo (FX.fr f2) (fun b hb => hb.1))) ⟨g2, T.x.fr f2 (Or.inr (by decide)), T.s.fx (FX.fr f2) (by omega) (by omega), ⟨Tb.1, Tb.2.1, Tb.2.2.1, by have := f2.1; omega⟩⟩ ⟨((f2.2.2.2.1 u (by omega)).1).trans w1, ((f2.2.2.2.1 u (by omega)).2).trans w2⟩ (fun k k0 k1 => (b0 k k0 k1).trans ?_) (fun k k0 k1 => (b1 k k0 k1).trans ?_) (fun k k0 k1 => (b2 k k0 k1).trans ?_) (fun k k0 k1 => (b3 k k0 k1).trans ?_) (fun k k0 k1 => (b4 k k0 k1).trans ?_)
    · show tB bs (i + ((4 * 0 + k).toNat : Int)) = _
      rw [show i + ((4 * 0 + k).toNat : Int) = i + k by omega]
    · show tB bs (i + ((4 * 1 + k).toNat : Int)) = _
      rw [show i + ((4 * 1 + k).toNat : Int) = i + 4 + k by omega]
    · show tB bs (i + ((4 * 2 + k).toNat : Int)) = _
      rw [show i + ((4 * 2 + k).toNat : Int) = i + 8 + k by omega]
    · show tB bs (i + ((4 * 3 + k).toNat : Int)) = _
      rw [show i + ((4 * 3 + k).toNat : Int) = i + 12 + k by omega]
    · show tB bs (i + ((4 * 4 + k).toNat : Int)) = _
      rw [show i + ((4 * 4 + k).toNat : Int) = i + 16 + k by omega]
  | succ n ih =>
    intro j hj h f T W
    have W' := W
    obtain ⟨⟨w1, w2⟩, w3⟩ := W'
    have Tb := T.b
    have td : ((j : Int)).tdiv 4 = (j : Int) / 4 := Int.tdiv_eq_ediv_of_nonneg (by omega)
    obtain ⟨x, ex⟩ := w3 ((j : Int) / 4) (by omega) (by omega)
    have em : (min 4 ((j : Int) - 4 * ((j : Int) / 4))).toNat = ((j : Int) % 4).toNat := by omega
    rw [em] at ex
    have go : ∀ b : Int, b = tB bs (i + (j : Int)) → WP (d + 5) 175 (23, [(2, 0), (2, s), (2, u), (0, i), (0, ((j + 1 : Nat) : Int))], [], am_w h u ((j : Int) / 4) (am_or (am_shl (am_m h u ((j : Int) / 4)) 8) b), nc, ns) K := by
      intro b eb
      have hb2 := hB (j : Int)
      have ej : i + ((((j : Int)).toNat : Nat) : Int) = i + (j : Int) := by omega
      rw [ej, ← eb] at hb2
      rw [pack1 hb2.1 hb2.2, ex]
      have fu : Fr u 1 h (am_w h u ((j : Int) / 4) (w32 (wq x (fun t => tB bs (i + (t.toNat : Int))) ((j : Int) / 4) ((j : Int) % 4).toNat * 256 + b))) := Fr.rf.w (Int.le_refl _) (by omega)
      refine ih (j + 1) (by omega) _ (f.tr ((FX.fr fu).mo (fun b hb => by omega))) ⟨T.g.fr2 fu (Or.inl (by omega)), T.x.fr fu (Or.inl (by omega)), T.s.fx (FX.fr fu) (by omega) (by omega), Tb⟩ ⟨⟨w1, w2⟩, fun q q0 q1 => ?_⟩
      rw [am_m_w]
      by_cases e : q = (j : Int) / 4
      · rw [if_pos ⟨rfl, e⟩]
        refine ⟨x, ?_⟩
        have en : (min 4 (((j + 1 : Nat) : Int) - 4 * q)).toNat = ((j : Int) % 4).toNat + 1 := by omega
        rw [en, e]
        show _ = w32 (wq x (fun t => tB bs (i + (t.toNat : Int))) ((j : Int) / 4) ((j : Int) % 4).toNat * 256 + tB bs (i + ((4 * ((j : Int) / 4) + ((((j : Int) % 4).toNat : Nat) : Int)).toNat : Int)))
        rw [show i + ((4 * ((j : Int) / 4) + ((((j : Int) % 4).toNat : Nat) : Int)).toNat : Int) = i + (j : Int) by omega, ← eb]
      · rw [if_neg (fun y => e y.2)]
        obtain ⟨x2, e2⟩ := w3 q q0 q1
        refine ⟨x2, ?_⟩
        rw [e2, show (min 4 (((j + 1 : Nat) : Int) - 4 * q)).toNat = (min 4 ((j : Int) - 4 * q)).toNat by omega]
    refine v175_23 ⟨fun _ => ?_, fun y => absurd (show (j : Int) < 20 by omega) y⟩
    rw [td, show w32 ((j : Int) / 4) = (j : Int) / 4 from w32_id (by omega) (by omega), w1, w2, show w32 (i + (j : Int)) = i + (j : Int) from w32_id (by omega) (by omega), show w32 ((j : Int) + 1) = ((j + 1 : Nat) : Int) by rw [w32_id (by omega) (by omega)]; omega]
    refine ⟨by decide, by decide, ⟨rfl, by omega, by omega⟩, T.s.t, d6 T.s (by omega) (okx ⟨fun y => ⟨T.s.t, d0 T.s (by omega) y (hb _ (by omega)) (okx ⟨⟨w1, by omega, by omega⟩, go _ ?_⟩)⟩, fun y => ⟨⟨w1, by omega, by omega⟩, go _ ?_⟩⟩)⟩
    · unfold tB
      rw [if_pos y]
    · unfold tB
      rw [if_neg y]
end
section
variable {d : Nat} {pp ss : TT} {tt : Int → List Op} {er q dq : Int} {c : Int → Int} {K : AK}
theorem t12 {h0 : AH} {u s w : Int} (hss : ss 0 0 = 0) (hd : 55 ≤ d)
    (k : ∀ h f tt2 tp2, FX (fun b => 0 ≤ b) h0 h → GC h f (s_bg f 0) tt2 0 tp2 (-1) dq q → FS (lpF c) (nwF c).toNat (npF c).toNat (nvF c).toNat (nbF c).toNat (lpF c 8 0) f → (∀ i, 0 ≤ i → i < nbF c → tt2 i = oB (lpF c) (bbF c i)) → K 0 0 h) :
    ∀ (n m : Nat), (lbs (LL c)).length ≤ 20 * (m + n) → 20 * m < (lbs (LL c)).length + 20 → ∀ (h : AH) (tp : Int → Int) (nc ns : Nat) (y4 : AV), FX (fun b => 0 ≤ b) h0 h → TT5 h pp ss tt (20 * (m : Int)) tp er q dq u s w (lbs (LL c)) → (am_t h u = 20 ∧ am_l h u = 5) → (∀ t, 0 ≤ t → t < 20 * (m : Int) → tp t = tB (lbs (LL c)) t) → nc ≤ 2 + m → ns ≤ 11 + 6 * m → WP (d + 6) 175 (12, [(2, 0), (2, s), (2, u), (0, 20 * (m : Int)), y4], [], h, nc, ns) K := by
  have hb : ∀ i : Nat, i < (lbs (LL c)).length → 0 ≤ (lbs (LL c)).getD i 0 ∧ (lbs (LL c)).getD i 0 < 128 := fun i hi => by
    rw [List.getD_eq_getElem?_getD, List.getElem?_eq_getElem hi]
    exact LL_ab _ (List.getElem_mem hi)
  have y := lpF_LA (c := c)
  have hl : (lbs (LL c)).length ≤ 1900 := y.len.2.1
  intro n
  induction n with
  | zero =>
    intro m hm hm2 h tp nc ns y4 f T W tq hc hs
    have Tb := T.b
    have tB0 : ∀ t, 0 ≤ t → t < 20 * (m : Int) → 0 ≤ tp t ∧ tp t < 256 := fun t t0 t1 => by
      have := tB_rg hb t t0 0
      rw [show t + (((0 : Int).toNat : Nat) : Int) = t by simp] at this
      rw [tq t t0 t1]
      exact this
    refine v175_12 ⟨T.s.t, d6 T.s (by omega) (okx ⟨fun y => absurd y (by omega), fun _ => ⟨T.s.t, d6 T.s (by omega) (okx ⟨⟨T.g.t0, by omega, by omega⟩, c104 T.g (fun _ h2 f2 g2 => okx ⟨g2.t0, ?_⟩) (fun z => absurd (show _ ∧ _ from ⟨by omega, by omega⟩) z)⟩)⟩⟩)⟩
    have x2 := T.x.fr f2 (Or.inr (by decide))
    have by0 : BY tp 0 (lbs (LL c)) := by
      have go : ∀ (l : List Int) (p : Nat), (∀ i : Nat, i < l.length → tp ((p : Int) + (i : Int)) = l.getD i 0) → BY tp (p : Int) l := by
        intro l
        induction l with
        | nil => intro p _; trivial
        | cons a l ih =>
          intro p hp
          refine ⟨?_, ?_⟩
          · have := hp 0 (by simp)
            rw [show (p : Int) + ((0 : Nat) : Int) = (p : Int) by omega] at this
            exact this
          · have := ih (p + 1) (fun i hi => by
              have := hp (i + 1) (by simp; omega)
              rw [show (((p + 1 : Nat) : Int)) + (i : Int) = (p : Int) + ((i + 1 : Nat) : Int) by omega]
              exact this)
            rw [show (((p + 1 : Nat) : Int)) = (p : Int) + 1 by omega] at this
            exact this
      refine go _ 0 (fun i hi => ?_)
      rw [show (((0 : Nat) : Int)) + (i : Int) = (i : Int) by omega, tq _ (by omega) (by omega)]
      unfold tB
      rw [if_pos (by omega), show ((i : Int)).toNat = i by omega]
    obtain ⟨r1, r2, r3, r4⟩ := y.read by0 rfl
    refine c105 (by omega) g2 x2 (fun i i0 i1 => tB0 i i0 (by omega)) (fun e pl te => ?_) (fun E Bs R eg er2 h3 f3 g3 _ => okx ?_)
    · rcases te with ⟨te, -⟩ | ⟨E, Bs, R, te, e1, e2, -⟩
      · have te' : gAll (s_kd tp ((lbs (LL c)).length : Int)) 400 0 = .inl pl := te
        rw [show LL c = AL (lpF c) (LVF c) (bbF c) (hbF c) (nwF c).toNat (npF c).toNat (nvF c).toNat (nbF c).toNat from rfl, r1] at te'
        cases te'
      · have te' : gAll (s_kd tp ((lbs (LL c)).length : Int)) 400 0 = .inr (E, Bs, R) := te
        rw [show LL c = AL (lpF c) (LVF c) (bbF c) (hbF c) (nwF c).toNat (npF c).toNat (nvF c).toNat (nbF c).toNat from rfl, r1] at te'
        cases te'
        exact absurd (e1.symm.trans r2) e2
    · rw [show LL c = AL (lpF c) (LVF c) (bbF c) (hbF c) (nwF c).toNat (npF c).toNat (nvF c).toNat (nbF c).toNat from rfl, r1] at eg
      cases eg
      rw [hss] at g3
      have eb : (((nbF c).toNat : Nat) : Int) = nbF c := by
        have := y.n3
        have e3 : lpF c 3 0 = nbF c := rfl
        omega
      exact k h3 _ _ _ ((f.tr ((FX.fr f2).mo (fun b hb => hb.1))).tr ((FX.fr f3).mo (fun b hb => hb.1))) g3 r3 (fun i i0 i1 => r4 i i0 (by omega))
  | succ n ih =>
    intro m hm hm2 h tp nc ns y4 f T W tq hc hs
    by_cases hx : 20 * m < (lbs (LL c)).length
    · have Tb := T.b
      refine v175_12 ⟨T.s.t, d6 T.s (by omega) (okx ⟨fun _ => ?_, fun y => absurd (show (20 * (m : Int)) < _ by omega) y⟩)⟩
      refine t23 (d := d + 1) hb hl ⟨by omega, by omega⟩ (by omega) (by omega) (by omega) ?_ 20 0 rfl h f T ⟨W, fun q q0 q1 => ⟨am_m h u q, ?_⟩⟩
      · intro h2 F0 F1 F2 F3 F4 f2 T2 W2 b0 b1 b2 b3 b4
        have ei : 20 * (m : Int) + 20 = 20 * ((m + 1 : Nat) : Int) := by omega
        rw [ei] at T2 ⊢
        refine ih (m + 1) (by omega) (by omega) h2 _ _ _ _ f2 T2 W2 (fun t t0 t1 => ?_) (by omega) (by omega)
        unfold s_t5 s_tp
        by_cases c4 : t < 20 * (m : Int) + 4 + 4 + 4 + 4
        · rw [if_pos c4]
          by_cases c3 : t < 20 * (m : Int) + 4 + 4 + 4
          · rw [if_pos c3]
            by_cases c2 : t < 20 * (m : Int) + 4 + 4
            · rw [if_pos c2]
              by_cases c1 : t < 20 * (m : Int) + 4
              · rw [if_pos c1]
                by_cases c0 : t < 20 * (m : Int)
                · rw [if_pos c0]
                  exact tq t t0 c0
                · rw [if_neg c0, b0 _ (by omega) (by omega), show 20 * (m : Int) + (t - 20 * (m : Int)) = t by omega]
              · rw [if_neg c1, b1 _ (by omega) (by omega), show 20 * (m : Int) + 4 + (t - (20 * (m : Int) + 4)) = t by omega]
            · rw [if_neg c2, b2 _ (by omega) (by omega), show 20 * (m : Int) + 8 + (t - (20 * (m : Int) + 4 + 4)) = t by omega]
          · rw [if_neg c3, b3 _ (by omega) (by omega), show 20 * (m : Int) + 12 + (t - (20 * (m : Int) + 4 + 4 + 4)) = t by omega]
        · rw [if_neg c4, b4 _ (by omega) (by omega), show 20 * (m : Int) + 16 + (t - (20 * (m : Int) + 4 + 4 + 4 + 4)) = t by omega]
      · rw [show (min 4 (((0 : Nat) : Int) - 4 * q)).toNat = 0 by omega]
        rfl
    · exact ih m (by omega) hm2 h tp nc ns y4 f T W tq hc hs
theorem s175 {h : AH} {s w tl : Int} {tp : Int → Int} (hss : ss 0 0 = 0) (hd : 55 ≤ d) (g : GC h pp ss tt tl tp er q dq) (x : TX h dq) (y : TS h s w (lbs (LL c))) (hs : 53 ≤ s ∧ 53 ≤ w)
    (k : ∀ h2 f tt2 tp2, FX (fun b => 0 ≤ b) h h2 → GC h2 f (s_bg f 0) tt2 0 tp2 (-1) dq q → FS (lpF c) (nwF c).toNat (npF c).toNat (nvF c).toNat (nbF c).toNat (lpF c 8 0) f → (∀ i, 0 ≤ i → i < nbF c → tt2 i = oB (lpF c) (bbF c i)) → K 0 0 h2) : am_call (d + 6) 175 [(2, 0), (2, s)] h K := by
  have gn := g.n
  have hl : (lbs (LL c)).length ≤ 1900 := (lpF_LA (c := c)).len.2.1
  have F1 : FP (am_n h) (am_n h) h (am_a h 20 5 (fun _ => 0)) := FP.rf.al
  have g1 := g.fp F1 (Int.le_refl _) (Int.le_refl _)
  have x1 : TX (am_a h 20 5 (fun _ => 0)) dq := x.fr (lo := 53) (n := 0) ⟨F1.1, F1.2.1, F1.2.2.1, F1.2.2.2.1, fun b hb _ i => F1.2.2.2.2 b hb (by omega) (by omega) i⟩ (Or.inl (by decide))
  have X1 : FX (fun b => 0 ≤ b) h (am_a h 20 5 (fun _ => 0)) := FX.rf.al
  have s1 := y.s1
  have w1 := y.w1
  have y1 : TS (am_a h 20 5 (fun _ => 0)) s w (lbs (LL c)) := y.fx (R := fun _ => False) (FX.rf.al) (fun z => z) (fun z => z)
  have T20 : am_t (am_a h 20 5 (fun _ => 0)) (am_n h) = 20 := if_pos rfl
  have L20 : am_l (am_a h 20 5 (fun _ => 0)) (am_n h) = 5 := if_pos rfl
  have n1 : am_n (am_a h 20 5 (fun _ => 0)) = am_n h + 1 := rfl
  refine v175 ⟨⟨⟨by decide, Or.inr (by omega)⟩, by decide, by decide⟩, by omega, ⟨g1.t0, by decide, by decide⟩, ?_⟩
  generalize am_a h 20 5 (fun _ => 0) = h1 at g1 x1 X1 y1 T20 L20 n1 ⊢
  have tb := g1.tb
  refine c104 g1 (fun _ h2 f2 g2 => okx ?_) (fun z => absurd (show _ ∧ _ from ⟨by decide, tb.1⟩) z)
  have X2 := FX.fr f2
  refine t12 hss hd k 95 0 (by omega) (by omega) h2 tp 2 11 _ (X1.tr (X2.mo (fun b hb => hb.1))) ⟨g2, x1.fr f2 (Or.inr (by decide)), y1.fx X2 (by omega) (by omega), ⟨hs, s1, w1, by have := f2.1; omega⟩⟩ ⟨((f2.2.2.2.1 (am_n h) (by omega)).1).trans T20, ((f2.2.2.2.1 (am_n h) (by omega)).2).trans L20⟩ (fun t t0 t1 => absurd t1 (by omega)) (by decide) (by decide)
end
