/-! ===== the law's years: a year passes ===== -/
theorem bc_b7 {pp ss : TT} (hN : 0 ≤ pp 1 0 ∧ pp 1 0 ≤ 7) : 0 ≤ s_bc pp ss ∧ s_bc pp ss ≤ 7 := by
  have := sm_bd (f := f_bc ss) (B := 1) (n := (pp 1 0).toNat) (fun i hi => by unfold f_bc; split <;> omega)
  have z : s_bc pp ss = sm (f_bc ss) (pp 1 0).toNat := rfl
  omega
section
variable {d : Nat} {o : Int} {A pp ss yy : TT} {bb : Int → Int → Int} {tt : Int → List Op} {tp : Int → Int} {er q dq x8 : Int} {tm : Nat} {K : AK} {a b : Nat}
variable {y1 y9 y10 y11 y12 y13 y14 y15 y16 y17 y18 y19 y20 y21 y22 y23 y24 y25 y26 y27 y28 y29 y30 y31 y32 y33 y34 y35 y36 y37 : AV}
/-- a row of the wards -/
def Q4 (h : AH) (u3 u4 n : Int) (G : Int → Int) : Prop := (am_t h u4 = 20 ∧ am_l h u4 = n) ∧ (u3 < u4 ∧ u4 < am_n h) ∧ (∀ w, 0 ≤ w → w < n → am_m h u4 w = G w)
theorem Q4.t {h : AH} {u3 u4 n : Int} {G : Int → Int} (x : Q4 h u3 u4 n G) : am_t h u4 = 20 ∧ am_l h u4 = n := x.1
theorem Q4.bd {h : AH} {u3 u4 n : Int} {G : Int → Int} (x : Q4 h u3 u4 n G) : u3 < u4 ∧ u4 < am_n h := x.2.1
theorem Q4.v {h : AH} {u3 u4 n : Int} {G : Int → Int} (x : Q4 h u3 u4 n G) : ∀ w, 0 ≤ w → w < n → am_m h u4 w = G w := x.2.2
theorem Q4.fx {h h2 : AH} {u3 u4 n : Int} {G : Int → Int} {R : Int → Prop} (x : Q4 h u3 u4 n G) (f : FX R h h2) (hR : ¬ R u4) : Q4 h2 u3 u4 n G := by
  obtain ⟨f1, f2, f3, f4, f5⟩ := f
  have b := x.bd
  exact ⟨⟨(f4 u4 b.2).1.trans x.t.1, (f4 u4 b.2).2.trans x.t.2⟩, by omega, fun w w0 w1 => (f5 u4 b.2 hR w).trans (x.v w w0 w1)⟩
theorem y1004 {u u2 u3 l13 l14 l15 l16 l18 l19 l20 l23 l24 l25 l26 : Int} {x : Nat} (hq : HQ pp bb tt) (hy : ss 0 0 + 100 < 2000000000) (ha : a ≤ 80000) (hb : b ≤ 5800000) (hx : x ≤ 900) {h : AH} {nc ns : Nat} (B : BO h o A pp ss bb tt tp er q dq) (P : P2T h pp ss tt u u2 (pp 2 0)) (T : T3 h pp (s_year pp tt (-1) ss) (u2 + pp 2 0) u3 11) (F : YF pp ss (s_year pp tt (-1) ss) tt) (hc : nc ≤ a + x) (hs : ns ≤ b + 6 * x)
    (k : ∀ h nc ns, BO h o A pp (s_year pp tt (-1) ss) bb tt tp er q dq → P2T h pp ss tt u u2 (pp 2 0) → T3 h pp (s_year pp tt (-1) ss) (u2 + pp 2 0) u3 11 → nc ≤ a + 720 + (x + 3) → ns ≤ b + 46000 + 6 * (x + 3) → ∀ {y28 y29 y30 y31 y32 y33 y34 y35 y36 y37 : AV}, WP (d + 10) 179 (1044, [(4, 0), y1, (2, o), (2, 0), (0, pp 0 0), (0, pp 1 0), (0, pp 2 0), (0, (tm : Int)), (0, x8), (0, ss 0 0), (0, ss 1 0), (0, ss 2 0), (2, u), (0, l13), (0, l14), (0, l15), (0, l16), (2, u2), (0, l18), (0, l19), (1, l20), (8, 0), (2, u3), (0, l23), (0, l24), (0, l25), (0, l26), (0, s_bc pp (s_year pp tt (-1) ss) - s_bc pp ss), y28, y29, y30, y31, y32, y33, y34, y35, y36, y37], [], h, nc, ns) K) :
    WP (d + 10) 179 (1004, [(4, 0), y1, (2, o), (2, 0), (0, pp 0 0), (0, pp 1 0), (0, pp 2 0), (0, (tm : Int)), (0, x8), (0, ss 0 0), (0, ss 1 0), (0, ss 2 0), (2, u), (0, l13), (0, l14), (0, l15), (0, l16), (2, u2), (0, l18), (0, l19), (1, l20), (8, 0), (2, u3), (0, l23), (0, l24), (0, l25), (0, l26), y27, y28, y29, y30, y31, y32, y33, y34, y35, y36, y37], [], h, nc, ns) K := by
  have hN := B.c.p1
  have hS := B.c.si
  have Pp := P.p.b
  have Tb := T.bd
  have Pl := P.lt
  have Pv := P.v.b
  have b1 := bc_b7 (pp := pp) (ss := ss) (by omega)
  have b2 := bc_b7 (pp := pp) (ss := s_year pp tt (-1) ss) (by omega)
  have e0 := F.e0
  have e1 := F.e1
  have yr := hS.yr
  refine v179_1004 ⟨⟨B.g.t0, by omega, by omega⟩, c120 (d := d) B.g hy (fun _ h2 f2 g2 => okx ?_) (fun z => absurd (by decide) z)⟩
  have g2' : GC h2 pp (s_year pp tt (-1) ss) tt 0 tp er q dq := g2
  have eB : w32 (s_bc pp (s_ys pp tt (-1) (1 : Int).toNat ss) - s_bc pp ss) = s_bc pp (s_year pp tt (-1) ss) - s_bc pp ss := w32_id (by show _ ≤ s_bc pp (s_year pp tt (-1) ss) - s_bc pp ss; omega) (by show s_bc pp (s_year pp tt (-1) ss) - s_bc pp ss < _; omega)
  rw [eB]
  have sm2 : SM h2 o A pp ss bb := B.c.fr (B.o.mono (fun b z => Or.inl z.2)) f2 (by decide) (by decide)
  have gn := g2.n
  refine ⟨⟨sm2.t, by omega, by omega⟩, s167 (d := d + 3) sm2 hq (by omega) (by omega) (fun h3 sm3 f3 n3 => okx ⟨fun _ => ?_, fun z => absurd rfl z⟩)⟩
  have g3 : GC h3 pp (s_year pp tt (-1) ss) tt 0 tp er q dq := g2'.fx f3 (fun b r => SR.ag B.o r)
  have B3 : BO h3 o A pp (s_year pp tt (-1) ss) bb tt tp er q dq := ⟨sm3, g3, B.o⟩
  have P3 := (P.fx (FX.fr f2) (fun b hb => by omega) (by omega)).fx f3 (fun b hb => by have := SR.ag B.o hb; omega) (by omega)
  have T2 := T.fx (FX.fr f2) (by omega)
  have T3' := T2.fx f3 (fun r => by have := SR.ag B.o r; omega)
  have c0 : s_ct pp (s_year pp tt (-1) ss) 0 0 = w32 (ss 0 0 + 1) := by
    rw [w32_id (x := ss 0 0 + 1) (by omega) (by omega)]
    exact e0
  have c5 : s_ct pp (s_year pp tt (-1) ss) 0 5 = ss 1 0 := e1
  exact ⟨⟨g3.t0, by omega, by omega⟩, c107 (d := d + 5) g3 (fun _ => okx ⟨fun _ => ⟨⟨g3.t0, by omega, by omega⟩, c107 (d := d + 5) g3 (fun _ => okx ⟨fun _ => k h3 _ _ B3 P3 T3' (by omega) (by omega), fun z => absurd c5 z⟩) (fun z => absurd (by decide) z)⟩, fun z => absurd c0 z⟩) (fun z => absurd (by decide) z)⟩
theorem y1048 {u u2 u3 l13 l14 l15 l16 l18 l19 l20 l23 l24 l25 l26 l27 : Int} {x : Nat} (hy : yy 0 0 + 100 < 2000000000) (ha : a ≤ 90000) (hb : b ≤ 6000000) (hx : x ≤ 900) (h23 : 0 ≤ l23 ∧ l23 < pp 1 0) (h24 : 0 < l24 → s_ul pp tt l23 61 0 yy = l24 - 1 ∧ l24 ≤ 61)
    (k : ∀ u4 h nc ns, BO h o A pp yy bb tt tp er q dq → P2T h pp ss tt u u2 (pp 2 0) → u2 + pp 2 0 < u3 → Q4 h u3 u4 (pp 0 0) (fun _ => 0) → nc ≤ a + (x + 8) → ns ≤ b + 6 * (x + 8) → ∀ {y33 y34 y35 y36 y37 : AV}, WP (d + 10) 179 (1115, [(4, 0), y1, (2, o), (2, 0), (0, pp 0 0), (0, pp 1 0), (0, pp 2 0), (0, (tm : Int)), (0, x8), (0, ss 0 0), (0, ss 1 0), (0, ss 2 0), (2, u), (0, l13), (0, l14), (0, l15), (0, l16), (2, u2), (0, l18), (0, l19), (1, l20), (8, 0), (2, u3), (0, l23), (0, l24), (0, l25), (0, l26), (0, l27), (2, u4), (0, 0), (0, 0), (0, 0), (0, 0), y33, y34, y35, y36, y37], [], h, nc, ns) K) :
    ∀ (n w : Nat), w + n = 11 → 6 ≤ w → ∀ (h : AH) (nc ns : Nat), BO h o A pp yy bb tt tp er q dq → P2T h pp ss tt u u2 (pp 2 0) → T3 h pp yy (u2 + pp 2 0) u3 11 → nc + 6 ≤ a + (x + w) → ns + 36 ≤ b + 6 * (x + w) → WP (d + 10) 179 (1048, [(4, 0), y1, (2, o), (2, 0), (0, pp 0 0), (0, pp 1 0), (0, pp 2 0), (0, (tm : Int)), (0, x8), (0, ss 0 0), (0, ss 1 0), (0, ss 2 0), (2, u), (0, l13), (0, l14), (0, l15), (0, l16), (2, u2), (0, l18), (0, l19), (1, l20), (8, 0), (2, u3), (0, l23), (0, l24), (0, l25), (0, l26), (0, l27), (0, (w : Int)), y29, y30, y31, y32, y33, y34, y35, y36, y37], [], h, nc, ns) K := by
  intro n
  induction n with
  | zero =>
    intro w hw w6 h nc ns B P T hc hs
    have hN := B.c.p1
    have hW := B.c.pi.nw
    have Pp := P.p.b
    have Tb := T.bd
    have Pl := P.lt
    have Pv := P.v.b
    have fin : ∀ (h : AH) (nc ns : Nat), BO h o A pp yy bb tt tp er q dq → P2T h pp ss tt u u2 (pp 2 0) → T3 h pp yy (u2 + pp 2 0) u3 11 → nc ≤ a + (x + 6) → ns ≤ b + 6 * (x + 6) → (((0 ≤ pp 0 0 ∧ pp 0 0 ≤ 4096) ∧ am_fr h) ∧ nc + 1 ≤ 600086 ∧ ns + (pp 0 0 : Int).toNat ≤ 7301442) ∧ (¬ am_n h = -1) ∧ ∀ {y33 y34 y35 y36 y37 : AV}, WP (d + 10) 179 (1115, [(4, 0), y1, (2, o), (2, 0), (0, pp 0 0), (0, pp 1 0), (0, pp 2 0), (0, (tm : Int)), (0, x8), (0, ss 0 0), (0, ss 1 0), (0, ss 2 0), (2, u), (0, l13), (0, l14), (0, l15), (0, l16), (2, u2), (0, l18), (0, l19), (1, l20), (8, 0), (2, u3), (0, l23), (0, l24), (0, l25), (0, l26), (0, l27), (2, am_n h), (0, 0), (0, 0), (0, 0), (0, 0), y33, y34, y35, y36, y37], [], (am_a h 20 (pp 0 0) (fun _ => 0)), nc + 1, ns + (pp 0 0 : Int).toNat) K := by
      intro h nc ns B P T hc hs
      have gn := B.g.n
      have Tb := T.bd
      refine ⟨⟨⟨by omega, Or.inr (by omega)⟩, by omega, by omega⟩, by omega, ?_⟩
      intro y33 y34 y35 y36 y37
      exact k (am_n h) _ _ _ (B.hi FX.rf.al) (P.fx (R := fun _ => False) FX.rf.al (fun b hb => hb.elim) (by omega)) Tb.1 ⟨⟨if_pos rfl, if_pos rfl⟩, ⟨Tb.2, by show am_n h < am_n h + 1; omega⟩, fun w w0 w1 => if_pos rfl⟩ (by omega) (by omega)
    refine v179_1048 ⟨fun z => absurd z (by omega), fun _ => ⟨fun z => ⟨⟨B.g.t0, by omega, by omega⟩, c121 (d := d) B.g hy (fun _ h2 f2 g2 => okx ⟨fun _ => ?_, fun z2 => absurd ?_ z2⟩) (fun z => absurd h23 z)⟩, fun _ => ?_⟩⟩
    · obtain ⟨f1, f2', f3⟩ := fin h2 (nc + 1) (ns + 6) (B.cl f2 (by decide) (by decide) g2) (P.fx (FX.fr f2) (fun b hb => by omega) (by omega)) (T.fx (FX.fr f2) (by omega)) (by omega) (by omega)
      exact ⟨f1, f2', f3⟩
    · have := h24 z
      rw [w32_id (x := l24 - 1) (by omega) (by omega)]
      exact this.1
    · obtain ⟨f1, f2', f3⟩ := fin h nc ns B P T (by omega) (by omega)
      exact ⟨f1, f2', f3⟩
  | succ n ih =>
    intro w hw w6 h nc ns B P T hc hs
    have ct : s_ct pp yy 0 (w : Int) = s_tot pp yy (w : Int) := if_pos (by omega)
    have Tb := T.bd
    refine v179_1048 ⟨fun _ => ⟨⟨B.g.t0, by omega, by omega⟩, c107 (d := d + 5) B.g (fun _ => okx ?_) (fun z => absurd (show _ ∧ _ from ⟨by omega, by omega⟩) z)⟩, fun z => absurd (show (w : Int) < 11 by omega) z⟩
    rw [T.t.1, T.t.2, T.v (w : Int) (by omega) (by omega), ct, show w32 ((w : Int) + 1) = ((w + 1 : Nat) : Int) by rw [w32_id (by omega) (by omega)]; omega]
    exact ⟨⟨rfl, by omega, by omega⟩, fun _ => ih (w + 1) (by omega) (by omega) h _ _ B P T (by omega) (by omega), fun z => absurd rfl z⟩
end
