/-! ===== the law's years: what lies ahead ===== -/
theorem ul_rg {pp : TT} {tt : Int → List Op} {p : Int} : ∀ (n : Nat) (i : Int) (st : TT), s_ul pp tt p n i st = -1 ∨ (i ≤ s_ul pp tt p n i st ∧ s_ul pp tt p n i st ≤ i + (n : Int))
  | 0, _, _ => Or.inl rfl
  | n + 1, i, st => by
    show (if st 7 p = -1 then s_ul pp tt p n (i + 1) (s_year pp tt (-1) st) else i) = -1 ∨ (i ≤ (if st 7 p = -1 then s_ul pp tt p n (i + 1) (s_year pp tt (-1) st) else i) ∧ (if st 7 p = -1 then s_ul pp tt p n (i + 1) (s_year pp tt (-1) st) else i) ≤ i + ((n + 1 : Nat) : Int))
    have := ul_rg (pp := pp) (tt := tt) (p := p) n (i + 1) (s_year pp tt (-1) st)
    split <;> omega
theorem ul_sh {pp : TT} {tt : Int → List Op} {p : Int} : ∀ (n : Nat) (i : Int) (st : TT), 0 ≤ i → s_ul pp tt p n (i + 1) st = if s_ul pp tt p n i st = -1 then -1 else s_ul pp tt p n i st + 1
  | 0, _, _, _ => rfl
  | n + 1, i, st, h => by
    show (if st 7 p = -1 then s_ul pp tt p n (i + 1 + 1) (s_year pp tt (-1) st) else i + 1) = if (if st 7 p = -1 then s_ul pp tt p n (i + 1) (s_year pp tt (-1) st) else i) = -1 then -1 else (if st 7 p = -1 then s_ul pp tt p n (i + 1) (s_year pp tt (-1) st) else i) + 1
    by_cases z : st 7 p = -1
    · rw [if_pos z, if_pos z]
      exact ul_sh n (i + 1) _ (by omega)
    · rw [if_neg z, if_neg z, if_neg (by omega)]
theorem ul_fu {pp : TT} {tt : Int → List Op} {p : Int} : ∀ (n : Nat) (i : Int) (st : TT), ¬ s_ul pp tt p n i st = -1 → s_ul pp tt p (n + 1) i st = s_ul pp tt p n i st
  | 0, _, _, h => absurd rfl h
  | n + 1, i, st, h => by
    have h' : ¬ (if st 7 p = -1 then s_ul pp tt p n (i + 1) (s_year pp tt (-1) st) else i) = -1 := h
    show (if st 7 p = -1 then s_ul pp tt p (n + 1) (i + 1) (s_year pp tt (-1) st) else i) = (if st 7 p = -1 then s_ul pp tt p n (i + 1) (s_year pp tt (-1) st) else i)
    by_cases z : st 7 p = -1
    · rw [if_pos z] at h' ⊢
      rw [if_pos z]
      exact ul_fu n (i + 1) _ h'
    · rw [if_neg z, if_neg z]
theorem ul_00 {pp : TT} {tt : Int → List Op} {p : Int} {st : TT} : (st 7 p = -1 → ¬ s_ul pp tt p 61 0 st = 0) ∧ (¬ st 7 p = -1 → s_ul pp tt p 61 0 st = 0) ∧ (0 < s_ul pp tt p 61 0 st → s_ul pp tt p 61 0 (s_year pp tt (-1) st) = s_ul pp tt p 61 0 st - 1) := by
  have e : s_ul pp tt p 61 0 st = if st 7 p = -1 then s_ul pp tt p 60 (0 + 1) (s_year pp tt (-1) st) else 0 := rfl
  rw [e]
  have r := ul_rg (pp := pp) (tt := tt) (p := p) 60 0 (s_year pp tt (-1) st)
  have s := ul_sh (pp := pp) (tt := tt) (p := p) 60 0 (s_year pp tt (-1) st) (by decide)
  by_cases z : st 7 p = -1
  · rw [if_pos z, s]
    by_cases z2 : s_ul pp tt p 60 0 (s_year pp tt (-1) st) = -1
    · rw [if_pos z2]
      exact ⟨fun _ => by decide, fun y => absurd z y, fun y => absurd y (by decide)⟩
    · rw [if_neg z2, ul_fu 60 0 _ z2]
      exact ⟨fun _ => by omega, fun y => absurd z y, fun y => by omega⟩
  · rw [if_neg z]
    exact ⟨fun y => absurd y z, fun _ => rfl, fun y => absurd y (by decide)⟩
theorem sp_rg {pp ss : TT} {tt : Int → List Op} {n : Nat} : ∀ m : Nat, (s_sp pp ss tt n m).1 = -1 ∨ (0 ≤ (s_sp pp ss tt n m).1 ∧ (s_sp pp ss tt n m).1 < (m : Int) ∧ ss 7 (s_sp pp ss tt n m).1 = -1)
  | 0 => Or.inl rfl
  | m + 1 => by
    have ih := sp_rg (pp := pp) (ss := ss) (tt := tt) (n := n) m
    have e : s_sp pp ss tt n (m + 1) = if ss 7 (m : Int) = -1 ∧ (s_sp pp ss tt n m).2 < s_bc pp (s_ys pp tt (m : Int) n ss) then ((m : Int), s_bc pp (s_ys pp tt (m : Int) n ss)) else s_sp pp ss tt n m := rfl
    rw [e]
    split
    · rename_i z
      exact Or.inr ⟨by show 0 ≤ (m : Int); omega, by show (m : Int) < ((m + 1 : Nat) : Int); omega, z.1⟩
    · rcases ih with y | ⟨y1, y2, y3⟩
      · exact Or.inl y
      · exact Or.inr ⟨y1, by omega, y3⟩
theorem av_rg {pp ss : TT} {tt : Int → List Op} {v : Int} {n : Nat} : ∀ m : Nat, (s_av pp ss tt v n m).1 = -1 ∨ (0 ≤ (s_av pp ss tt v n m).1 ∧ (s_av pp ss tt v n m).1 < (m : Int) ∧ ss 7 (s_av pp ss tt v n m).1 = -1)
  | 0 => Or.inl rfl
  | m + 1 => by
    have ih := av_rg (pp := pp) (ss := ss) (tt := tt) (v := v) (n := n) m
    have e : s_av pp ss tt v n (m + 1) = if ss 7 (m : Int) = -1 ∧ ss 9 (12 * v + (m : Int)) = 0 ∧ (s_av pp ss tt v n m).2 < s_pl pp (s_ys pp tt (-1) n (su ss 9 (12 * v + (m : Int)) 1)) v then ((m : Int), s_pl pp (s_ys pp tt (-1) n (su ss 9 (12 * v + (m : Int)) 1)) v) else s_av pp ss tt v n m := rfl
    rw [e]
    split
    · rename_i z
      exact Or.inr ⟨by show 0 ≤ (m : Int); omega, by show (m : Int) < ((m + 1 : Nat) : Int); omega, z.1⟩
    · rcases ih with y | ⟨y1, y2, y3⟩
      · exact Or.inl y
      · exact Or.inr ⟨y1, by omega, y3⟩
section
variable {d : Nat} {o : Int} {A pp ss : TT} {bb : Int → Int → Int} {tt : Int → List Op} {tp : Int → Int} {er q dq x8 : Int} {tm : Nat} {K : AK} {a b : Nat}
variable {y1 y9 y10 y11 y12 y13 y14 y15 y16 y17 y18 y19 y20 y21 y22 y23 y24 y25 y26 y27 y28 y29 y30 y31 y32 y33 y34 y35 y36 y37 : AV}
theorem P2T.at {h : AH} {u u2 k i j : Int} (P : P2T h pp ss tt u u2 k) (i0 : 0 ≤ i) (i1 : i < pp 1 0) (j0 : 0 ≤ j) (j1 : j < 8) : ((am_t h u = 24 ∨ am_t h u = 25) ∧ 0 ≤ i ∧ i < am_l h u) ∧ (am_t h (am_m h u i) = 20 ∧ 0 ≤ j ∧ j < am_l h (am_m h u i)) ∧ am_m h (am_m h u i) j = s_op pp ss tt i j := by
  obtain ⟨r1, r2, r3⟩ := P.p.r i i0 i1
  rw [P.p.t.1, P.p.t.2, r1, r2, r3]
  exact ⟨⟨Or.inl rfl, i0, i1⟩, ⟨rfl, j0, j1⟩, P.p.v i j i0 i1 j0 j1⟩
/-- the row of the totals ahead -/
def T3 (h : AH) (pp y : TT) (lo u3 k : Int) : Prop := (am_t h u3 = 20 ∧ am_l h u3 = 11) ∧ (lo < u3 ∧ u3 < am_n h) ∧ (∀ w, 6 ≤ w → w < k → am_m h u3 w = s_tot pp y w)
theorem T3.t {h : AH} {pp y : TT} {lo u3 k : Int} (x : T3 h pp y lo u3 k) : am_t h u3 = 20 ∧ am_l h u3 = 11 := x.1
theorem T3.bd {h : AH} {pp y : TT} {lo u3 k : Int} (x : T3 h pp y lo u3 k) : lo < u3 ∧ u3 < am_n h := x.2.1
theorem T3.v {h : AH} {pp y : TT} {lo u3 k : Int} (x : T3 h pp y lo u3 k) : ∀ w, 6 ≤ w → w < k → am_m h u3 w = s_tot pp y w := x.2.2
theorem T3.fx {h h2 : AH} {pp y : TT} {lo u3 k : Int} {R : Int → Prop} (x : T3 h pp y lo u3 k) (f : FX R h h2) (hR : ¬ R u3) : T3 h2 pp y lo u3 k := by
  obtain ⟨f1, f2, f3, f4, f5⟩ := f
  have b := x.bd
  exact ⟨⟨(f4 u3 b.2).1.trans x.t.1, (f4 u3 b.2).2.trans x.t.2⟩, by omega, fun w w0 w1 => (f5 u3 b.2 hR w).trans (x.v w w0 w1)⟩
theorem y821 {u u2 u3 l13 l14 l15 l16 l18 l19 l20 : Int} {x : Nat} (hy : ss 0 0 + 100 < 2000000000) (ha : a ≤ 90000) (hb : b ≤ 6000000) (hx : x ≤ 900)
    (k : ∀ h nc ns p, BO h o A pp ss bb tt tp er q dq → P2T h pp ss tt u u2 (pp 2 0) → T3 h pp (s_year pp tt (-1) ss) (u2 + pp 2 0) u3 11 → (0 ≤ p ∧ p < pp 1 0) → nc ≤ a + (x + 6) → ns ≤ b + 6 * (x + 6) → ∀ {y25 y26 y27 y28 y29 y30 y31 y32 y33 y34 y35 y36 y37 : AV}, WP (d + 10) 179 (865, [(4, 0), y1, (2, o), (2, 0), (0, pp 0 0), (0, pp 1 0), (0, pp 2 0), (0, (tm : Int)), (0, x8), (0, ss 0 0), (0, ss 1 0), (0, ss 2 0), (2, u), (0, l13), (0, l14), (0, l15), (0, l16), (2, u2), (0, l18), (0, l19), (1, l20), (8, 0), (2, u3), (0, p), (0, s_ul pp tt p 61 0 ss), y25, y26, y27, y28, y29, y30, y31, y32, y33, y34, y35, y36, y37], [], h, nc, ns) K) :
    ∀ (n w : Nat), w + n = 11 → 6 ≤ w → ∀ (h : AH) (nc ns : Nat), BO h o A pp ss bb tt tp er q dq → P2T h pp ss tt u u2 (pp 2 0) → T3 h pp (s_year pp tt (-1) ss) (u2 + pp 2 0) u3 (w : Int) → nc + 6 ≤ a + (x + w) → ns + 36 ≤ b + 6 * (x + w) → WP (d + 10) 179 (821, [(4, 0), y1, (2, o), (2, 0), (0, pp 0 0), (0, pp 1 0), (0, pp 2 0), (0, (tm : Int)), (0, x8), (0, ss 0 0), (0, ss 1 0), (0, ss 2 0), (2, u), (0, l13), (0, l14), (0, l15), (0, l16), (2, u2), (0, l18), (0, l19), (1, l20), (8, 0), (2, u3), (0, (w : Int)), y24, y25, y26, y27, y28, y29, y30, y31, y32, y33, y34, y35, y36, y37], [], h, nc, ns) K := by
  intro n
  induction n with
  | zero =>
    intro w hw w6 h nc ns B P T hc hs
    have hN := B.c.p1
    have ew : (w : Int) = 11 := by omega
    rw [ew] at T
    have Pp := P.p.b
    have Tb := T.bd
    have Pl := P.lt
    refine v179_821 ⟨fun z => absurd z (by omega), fun _ => s173 (by omega) (fun r r0 r1 => okx ⟨⟨B.g.t0, by omega, by omega⟩, c121 (d := d) B.g hy (fun _ h2 f2 g2 => okx ?_) (fun z => absurd (show _ ∧ _ from ⟨r0, r1⟩) z)⟩)⟩
    exact k h2 _ _ r (B.cl f2 (by decide) (by decide) g2) (P.fx (FX.fr f2) (fun b hb => by omega) (by omega)) (T.fx (FX.fr f2) (by omega)) ⟨r0, r1⟩ (by omega) (by omega)
  | succ n ih =>
    intro w hw w6 h nc ns B P T hc hs
    have Pp := P.p.b
    have Pv := P.v.b
    have Tb := T.bd
    have Pl := P.lt
    refine v179_821 ⟨fun _ => ⟨⟨B.g.t0, by omega, by omega⟩, c122 (d := d) B.g hy (fun _ h2 f2 g2 => okx ?_) (fun z => absurd (by decide) z) (fun z => absurd (show _ ∧ _ from ⟨by omega, by omega⟩) z.2)⟩, fun z => absurd (show (w : Int) < 11 by omega) z⟩
    have P2 := P.fx (FX.fr f2) (fun b hb => by omega) (by omega)
    have T2 := T.fx (FX.fr f2) (by omega)
    have T2b := T2.bd
    rw [T2.t.1, T2.t.2, show w32 ((w : Int) + 1) = ((w + 1 : Nat) : Int) by rw [w32_id (by omega) (by omega)]; omega]
    refine ⟨⟨rfl, by omega, by omega⟩, ih (w + 1) (by omega) (by omega) _ _ _ ((B.cl f2 (by decide) (by decide) g2).hi (FX.rf.w (by omega))) (P2.fx (R := fun b => b = u3) (FX.rf.w rfl) (fun b hb => by omega) (by omega)) ⟨T2.t, T2.bd, fun s s0 s1 => ?_⟩ (by omega) (by omega)⟩
    rw [am_m_w]
    by_cases e : s = (w : Int)
    · rw [if_pos ⟨rfl, e⟩, e]
      rfl
    · rw [if_neg (fun z => e z.2)]
      exact T2.v s s0 (by omega)
theorem y865 {u u2 u3 l13 l14 l15 l16 l18 l19 l20 l23 l24 : Int} {x : Nat} (hy : ss 0 0 + 100 < 2000000000) (ha : a ≤ 90000) (hb : b ≤ 6000000) (hx : x ≤ 900) {h : AH} {nc ns : Nat} (B : BO h o A pp ss bb tt tp er q dq) (P : P2T h pp ss tt u u2 (pp 2 0)) {y : TT} (T : T3 h pp y (u2 + pp 2 0) u3 11) (hc : nc ≤ a + x) (hs : ns ≤ b + 6 * x)
    (k : ∀ h nc ns l25 l26, BO h o A pp ss bb tt tp er q dq → P2T h pp ss tt u u2 (pp 2 0) → T3 h pp y (u2 + pp 2 0) u3 11 → (l25 = -1 ∨ (0 ≤ l25 ∧ l25 < pp 1 0 ∧ ss 7 l25 = -1)) → (l26 = -1 ∨ (0 ≤ l26 ∧ l26 < pp 1 0 ∧ ss 7 l26 = -1)) → nc ≤ a + (x + 2) → ns ≤ b + 6 * (x + 2) → ∀ {y27 y28 y29 y30 y31 y32 y33 y34 y35 y36 y37 : AV}, WP (d + 10) 179 (934, [(4, 0), y1, (2, o), (2, 0), (0, pp 0 0), (0, pp 1 0), (0, pp 2 0), (0, (tm : Int)), (0, x8), (0, ss 0 0), (0, ss 1 0), (0, ss 2 0), (2, u), (0, l13), (0, l14), (0, l15), (0, l16), (2, u2), (0, l18), (0, l19), (1, l20), (8, 0), (2, u3), (0, l23), (0, l24), (0, l25), (0, l26), y27, y28, y29, y30, y31, y32, y33, y34, y35, y36, y37], [], h, nc, ns) K) :
    WP (d + 10) 179 (865, [(4, 0), y1, (2, o), (2, 0), (0, pp 0 0), (0, pp 1 0), (0, pp 2 0), (0, (tm : Int)), (0, x8), (0, ss 0 0), (0, ss 1 0), (0, ss 2 0), (2, u), (0, l13), (0, l14), (0, l15), (0, l16), (2, u2), (0, l18), (0, l19), (1, l20), (8, 0), (2, u3), (0, l23), (0, l24), y25, y26, y27, y28, y29, y30, y31, y32, y33, y34, y35, y36, y37], [], h, nc, ns) K := by
  have hN := B.c.p1
  have key : ∀ (h : AH) (nc ns : Nat) (l25 : Int), BO h o A pp ss bb tt tp er q dq → P2T h pp ss tt u u2 (pp 2 0) → T3 h pp y (u2 + pp 2 0) u3 11 → (l25 = -1 ∨ (0 ≤ l25 ∧ l25 < pp 1 0 ∧ ss 7 l25 = -1)) → nc ≤ a + (x + 1) → ns ≤ b + 6 * (x + 1) → WP (d + 10) 179 (894, [(4, 0), y1, (2, o), (2, 0), (0, pp 0 0), (0, pp 1 0), (0, pp 2 0), (0, (tm : Int)), (0, x8), (0, ss 0 0), (0, ss 1 0), (0, ss 2 0), (2, u), (0, l13), (0, l14), (0, l15), (0, l16), (2, u2), (0, l18), (0, l19), (1, l20), (8, 0), (2, u3), (0, l23), (0, l24), (0, l25), y26, y27, y28, y29, y30, y31, y32, y33, y34, y35, y36, y37], [], h, nc, ns) K := by
    intro h nc ns l25 B P T z hc hs
    refine v179_894 ⟨by decide, fun _ => s173 (by omega) (fun v v0 v1 => okx (s173 (by decide) (fun r r0 r1 => okx ⟨⟨B.g.t0, by omega, by omega⟩, ?_⟩))), fun _ => k h nc ns l25 (-1) B P T z (Or.inl rfl) (by omega) (by omega)⟩
    rw [w32_id (x := 1 + r) (by omega) (by omega)]
    refine c123 (d := d) B.g hy (fun _ h2 f2 g2 => okx ?_) (fun z => absurd (show _ ∧ _ from ⟨by omega, by omega⟩) z.2) (fun z => absurd (show _ ∧ _ from ⟨v0, v1⟩) z)
    have Pp := P.p.b
    have Tb := T.bd
    have Pl := P.lt
    have Pv := P.v.b
    refine k h2 _ _ l25 _ (B.cl f2 (by decide) (by decide) g2) (P.fx (FX.fr f2) (fun b hb => by omega) (by omega)) (T.fx (FX.fr f2) (by omega)) z ?_ (by omega) (by omega)
    rcases av_rg (pp := pp) (ss := ss) (tt := tt) (v := v) (n := (1 + r).toNat) (pp 1 0).toNat with w | ⟨w1, w2, w3⟩
    · exact Or.inl w
    · exact Or.inr ⟨w1, by omega, w3⟩
  refine v179_865 ⟨by decide, fun _ => s173 (by decide) (fun r r0 r1 => okx ⟨⟨B.g.t0, by omega, by omega⟩, ?_⟩), fun _ => key h nc ns (-1) B P T (Or.inl rfl) (by omega) (by omega)⟩
  rw [w32_id (x := 1 + r) (by omega) (by omega)]
  refine c124 (d := d) B.g hy (fun _ h2 f2 g2 => okx ?_) (fun z => absurd (show _ ∧ _ from ⟨by omega, by omega⟩) z)
  have Pp := P.p.b
  have Tb := T.bd
  have Pl := P.lt
  have Pv := P.v.b
  refine key h2 _ _ _ (B.cl f2 (by decide) (by decide) g2) (P.fx (FX.fr f2) (fun b hb => by omega) (by omega)) (T.fx (FX.fr f2) (by omega)) ?_ (by omega) (by omega)
  rcases sp_rg (pp := pp) (ss := ss) (tt := tt) (n := (1 + r).toNat) (pp 1 0).toNat with w | ⟨w1, w2, w3⟩
  · exact Or.inl w
  · exact Or.inr ⟨w1, by omega, w3⟩
theorem y934 {u u2 u3 l13 l14 l15 l16 l18 l19 l23 l24 l25 l26 : Int} {x : Nat} (ha : a ≤ 90000) (hb : b ≤ 6000000) (hx : x ≤ 900) {h : AH} {nc ns : Nat} (B : BO h o A pp ss bb tt tp er q dq) (P : P2T h pp ss tt u u2 (pp 2 0)) {y : TT} (T : T3 h pp y (u2 + pp 2 0) u3 11) (h23 : 0 ≤ l23 ∧ l23 < pp 1 0) (h24 : (l24 = 0 → 0 ≤ ss 7 l23) ∧ (¬ l24 = 0 → ss 7 l23 < 0)) (h25 : l25 = -1 ∨ (0 ≤ l25 ∧ l25 < pp 1 0 ∧ ss 7 l25 = -1)) (h26 : l26 = -1 ∨ (0 ≤ l26 ∧ l26 < pp 1 0 ∧ ss 7 l26 = -1))
    (k : ∀ h, BO h o A pp ss bb tt tp er q dq → P2T h pp ss tt u u2 (pp 2 0) → T3 h pp y (u2 + pp 2 0) u3 11 → ∀ {y27 y28 y29 y30 y31 y32 y33 y34 y35 y36 y37 : AV}, WP (d + 10) 179 (1004, [(4, 0), y1, (2, o), (2, 0), (0, pp 0 0), (0, pp 1 0), (0, pp 2 0), (0, (tm : Int)), (0, x8), (0, ss 0 0), (0, ss 1 0), (0, ss 2 0), (2, u), (0, l13), (0, l14), (0, l15), (0, l16), (2, u2), (0, l18), (0, l19), (1, s_dg pp ss tt 0), (8, 0), (2, u3), (0, l23), (0, l24), (0, l25), (0, l26), y27, y28, y29, y30, y31, y32, y33, y34, y35, y36, y37], [], h, nc, ns) K) :
    WP (d + 10) 179 (934, [(4, 0), y1, (2, o), (2, 0), (0, pp 0 0), (0, pp 1 0), (0, pp 2 0), (0, (tm : Int)), (0, x8), (0, ss 0 0), (0, ss 1 0), (0, ss 2 0), (2, u), (0, l13), (0, l14), (0, l15), (0, l16), (2, u2), (0, l18), (0, l19), (1, s_dg pp ss tt 0), (8, 0), (2, u3), (0, l23), (0, l24), (0, l25), (0, l26), y27, y28, y29, y30, y31, y32, y33, y34, y35, y36, y37], [], h, nc, ns) K := by
  have hN := B.c.p1
  have Pp := P.p.b
  have Tb := T.bd
  have Pl := P.lt
  have Pv := P.v.b
  refine v179_934 ⟨B.g.t0, c126 (d := d + 1) B.g (fun h2 f2 g2 => okx ?_)⟩
  have P2 := P.fx (FX.fr f2) (fun b hb => by omega) (by omega)
  have fin := fun {y27 y28 y29 y30 y31 y32 y33 y34 y35 y36 y37 : AV} => k h2 (B.cl f2 (by decide) (by decide) g2) P2 (T.fx (FX.fr f2) (by omega)) (y27 := y27) (y28 := y28) (y29 := y29) (y30 := y30) (y31 := y31) (y32 := y32) (y33 := y33) (y34 := y34) (y35 := y35) (y36 := y36) (y37 := y37)
  have x23 := P2.at (i := l23) (j := 4) h23.1 h23.2 (by decide) (by decide)
  have lc : am_lcmp (s_dg pp ss tt 0) (s_dg pp ss tt 0) = 0 := by
    unfold am_lcmp
    rw [if_neg (by omega), if_pos rfl]
  exact ⟨fun _ => ⟨fun _ => ⟨fun _ => ⟨fun z0 => ⟨x23.1, x23.2.1, fun w => absurd w (by rw [x23.2.2]; have := h24.1 z0; show ¬ ss 7 l23 < 0; omega), fun _ => ⟨fun _ => fin, fun z => absurd rfl z⟩⟩, fun z0 => ⟨x23.1, x23.2.1, fun _ => ⟨fun _ => fin, fun z => absurd rfl z⟩, fun w => absurd (by rw [x23.2.2]; have := h24.2 z0; show ss 7 l23 < 0; omega) w⟩⟩, fun z => have x26 := P2.at (i := l26) (j := 4) (by omega) (by omega) (by decide) (by decide); ⟨x26.1, x26.2.1, fun _ => ⟨fun z0 => ⟨x23.1, x23.2.1, fun w => absurd w (by rw [x23.2.2]; have := h24.1 z0; show ¬ ss 7 l23 < 0; omega), fun _ => ⟨fun _ => fin, fun z => absurd rfl z⟩⟩, fun z0 => ⟨x23.1, x23.2.1, fun _ => ⟨fun _ => fin, fun z => absurd rfl z⟩, fun w => absurd (by rw [x23.2.2]; have := h24.2 z0; show ss 7 l23 < 0; omega) w⟩⟩, fun w => absurd (by rw [x26.2.2]; show ss 7 l26 < 0; omega) w⟩⟩, fun z => have x25 := P2.at (i := l25) (j := 4) (by omega) (by omega) (by decide) (by decide); ⟨x25.1, x25.2.1, fun _ => ⟨fun _ => ⟨fun z0 => ⟨x23.1, x23.2.1, fun w => absurd w (by rw [x23.2.2]; have := h24.1 z0; show ¬ ss 7 l23 < 0; omega), fun _ => ⟨fun _ => fin, fun z => absurd rfl z⟩⟩, fun z0 => ⟨x23.1, x23.2.1, fun _ => ⟨fun _ => fin, fun z => absurd rfl z⟩, fun w => absurd (by rw [x23.2.2]; have := h24.2 z0; show ss 7 l23 < 0; omega) w⟩⟩, fun z => have x26 := P2.at (i := l26) (j := 4) (by omega) (by omega) (by decide) (by decide); ⟨x26.1, x26.2.1, fun _ => ⟨fun z0 => ⟨x23.1, x23.2.1, fun w => absurd w (by rw [x23.2.2]; have := h24.1 z0; show ¬ ss 7 l23 < 0; omega), fun _ => ⟨fun _ => fin, fun z => absurd rfl z⟩⟩, fun z0 => ⟨x23.1, x23.2.1, fun _ => ⟨fun _ => fin, fun z => absurd rfl z⟩, fun w => absurd (by rw [x23.2.2]; have := h24.2 z0; show ss 7 l23 < 0; omega) w⟩⟩, fun w => absurd (by rw [x26.2.2]; show ss 7 l26 < 0; omega) w⟩⟩, fun w => absurd (by rw [x25.2.2]; show ss 7 l25 < 0; omega) w⟩⟩, fun z => absurd lc z⟩
end
