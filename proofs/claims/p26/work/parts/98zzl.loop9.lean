/-! ===== the law's years, one after another ===== -/
theorem s174 {d : Nat} {z k : Int} {h : AH} {K : AK} (hk : 0 ≤ k) (kk : ∀ r, K 0 r h) : am_call d 174 [(4, z), (0, k)] h K := v174 ⟨fun y => ⟨⟨hk, y⟩, kk _⟩, fun _ => kk _⟩
theorem yb0 {n A B t C D : Nat} (h : n ≤ A + B * t + C + D) (e : C + D ≤ B) : n ≤ A + B * (t + 1) := by
  rw [Nat.mul_add, Nat.mul_one]
  omega
section
variable {d : Nat} {o : Int} {A pp ss : TT} {bb : Int → Int → Int} {tt : Int → List Op} {tp : Int → Int} {er q dq x8 : Int} {tm : Nat} {K : AK} {a b : Nat}
variable {y1 y8 y9 y10 y11 y12 y13 y14 y15 y16 y17 y18 y19 y20 y21 y22 y23 y24 y25 y26 y27 y28 y29 y30 y31 y32 y33 y34 y35 y36 y37 : AV}
theorem yYear {h : AH} {nc ns : Nat} (hq : HQ pp bb tt) (Y : YB0 pp ss) (hy' : ss 0 0 + 200 < 2000000000) (ha : a ≤ 80000) (hb : b ≤ 5800000) (B : BO h o A pp ss bb tt tp er q dq) (hc : nc ≤ a + 8) (hs : ns ≤ b + 6 * 8)
    (k : ∀ h nc ns, BO h o A pp (s_year pp tt (-1) ss) bb tt tp er q dq → nc ≤ a + 720 + 732 → ns ≤ b + 46000 + 6 * 732 → ∀ {y8 y9 y10 y11 y12 y13 y14 y15 y16 y17 y18 y19 y20 y21 y22 y23 y24 y25 y26 y27 y28 y29 y30 y31 y32 y33 y34 y35 y36 y37 : AV}, WP (d + 10) 179 (59, [(4, 0), y1, (2, o), (2, 0), (0, pp 0 0), (0, pp 1 0), (0, pp 2 0), (0, w32 ((tm : Int) + 1)), y8, y9, y10, y11, y12, y13, y14, y15, y16, y17, y18, y19, y20, y21, y22, y23, y24, y25, y26, y27, y28, y29, y30, y31, y32, y33, y34, y35, y36, y37], [], h, nc, ns) K) :
    WP (d + 10) 179 (114, [(4, 0), y1, (2, o), (2, 0), (0, pp 0 0), (0, pp 1 0), (0, pp 2 0), (0, (tm : Int)), (0, x8), y9, y10, y11, y12, y13, y14, y15, y16, y17, y18, y19, y20, y21, y22, y23, y24, y25, y26, y27, y28, y29, y30, y31, y32, y33, y34, y35, y36, y37], [], h, nc, ns) K := by
  have hy : ss 0 0 + 100 < 2000000000 := by omega
  have hN := B.c.p1
  have hI := B.c.pi
  have hS := B.c.si
  have Y' := Y
  obtain ⟨-, -, yh, y5, y3⟩ := Y'
  have F : YF pp ss (s_year pp tt (-1) ss) tt := YF.mk' hI (by omega) Y (by omega)
  have e0 := F.e0
  have nw := hI.nw
  refine y114 (a := a) (b := b) (x := 8) B (by omega) (by omega) (by decide) hc hs ?_
  intro u h nc ns B P hc hs
  intros
  refine y155 (a := a) (b := b) (x := 22) (by omega) (by omega) (by decide) ?_ (pp 1 0).toNat 0 (by omega) h nc ns _ B P (by omega) (by omega)
  intro u2 h nc ns B P P2 hu hc hs
  intros
  refine y507 (a := a) (b := b) (x := 341) hI hS (by omega) (by omega) (by decide) (fun v v0 v1 => (y5 v v0 v1).1) ?_ (pp 2 0).toNat 0 (by omega) h nc ns B ⟨P, P2, hu⟩ (by omega) (by omega)
  intro h nc ns B P hc hs
  intros
  refine y721 (a := a) (b := b) (x := 481) (u := u) (u2 := u2) (l13 := 0) (l14 := 0) B (by omega) (by omega) (by decide) hc hs ?_
  intros
  refine y791 (a := a) (b := b) (x := 484) B P (by omega) (by omega) (by decide) (by omega) (by omega) ?_
  intro u3 h nc ns B P T hc hs
  intros
  refine y821 (a := a) (b := b) (x := 487) hy (by omega) (by omega) (by decide) ?_ 5 6 rfl (by decide) h nc ns B P ⟨⟨T.1, T.2.1⟩, T.2.2, fun w w0 w1 => absurd w1 (by omega)⟩ (by omega) (by omega)
  intro h nc ns p B P T hp hc hs
  intros
  refine y865 (a := a) (b := b) (x := 493) hy (by omega) (by omega) (by decide) B P T hc hs ?_
  intro h nc ns l25 l26 B P T h25 h26 hc hs
  intros
  have c7 := hS.built hp.1 hp.2
  obtain ⟨ul1, ul2, ul3⟩ := ul_00 (pp := pp) (tt := tt) (p := p) (st := ss)
  have ur := ul_rg (pp := pp) (tt := tt) (p := p) 61 0 ss
  refine y934 (a := a) (b := b) (x := 495) (by omega) (by omega) (by decide) B P T hp ⟨fun z => ?_, fun z => ?_⟩ h25 h26 ?_
  · by_cases w : ss 7 p = -1
    · exact absurd z (ul1 w)
    · omega
  · by_cases w : ss 7 p = -1
    · omega
    · exact absurd (ul2 w) z
  intro h B P T
  intros
  refine y1004 (a := a) (b := b) (x := 495) hq hy ha hb (by decide) B P T F hc hs ?_
  intro h nc ns B P T hc hs
  intros
  refine v179_1044 ?_
  refine y1048 (a := a + 720) (b := b + 46000) (x := 498) (l24 := s_ul pp tt p 61 0 ss) (yy := s_year pp tt (-1) ss) (by omega) (by omega) (by omega) (by decide) hp (fun z => ⟨ul3 z, by omega⟩) ?_ 5 6 rfl (by decide) h nc ns B P T (by omega) (by omega)
  intro u4 h nc ns B P h3 Q hc hs
  intros
  refine y1115 (a := a + 720) (b := b + 46000) (x := 506) F hS (by omega) (by omega) (by decide) ?_ h3 (pp 1 0).toNat 0 (by omega) h nc ns B P Q (by omega) (by omega)
  intro h nc ns B P Q hc hs
  intros
  refine y1303 (a := a + 720) (b := b + 46000) (x := 534) F hS y3 (by omega) (by omega) (by decide) B P Q h3 hc hs ?_
  intro h nc ns B P Q hc hs
  intros
  refine y1362 (a := a + 720) (b := b + 46000) (x := 537) F (by omega) (by omega) (by decide) B P Q h3 ?_ (pp 0 0).toNat 0 (by omega) nc ns (by omega) (by omega)
  intro nc ns hc hs
  intros
  refine y1396 (a := a + 720) (b := b + 46000) (x := 541) (u3 := u3) F hS (by omega) (by omega) (by decide) B hc hs ?_
  intro ce
  intros
  refine y1436 (a := a + 720) (b := b + 46000) (x := 542) F hS y5 ce (by omega) (by omega) (by decide) h3 ?_ (pp 2 0).toNat 0 (by omega) h _ _ B P Q (by omega) (by omega)
  intro h nc ns B P Q hc hs
  intros
  refine y1596 (a := a + 720) (b := b + 46000) (x := 703) F hS (by omega) (by omega) (by decide) h3 B P Q hc hs ?_
  intro h nc ns B hc hs
  intros
  exact v179_1697 (k h nc ns B (by omega) (by omega))
theorem y59 (hq : HQ pp bb tt) (kK : ∀ h, K 0 1 h) : ∀ (n tm : Nat), tm + n = 50 → ∀ (ss : TT) (h : AH) (nc ns : Nat), BO h o A pp ss bb tt tp er q dq → ss 0 0 = (tm : Int) → (∀ v, 0 ≤ v → v < pp 2 0 → 0 ≤ ss 5 v ∧ ss 5 v ≤ 10000 * (tm : Int)) → (0 ≤ ss 3 0 ∧ ss 3 0 ≤ 70000 * (tm : Int)) → nc ≤ 2460 + 1460 * tm → ns ≤ 3030000 + 50400 * tm → ∀ {y8 y9 y10 y11 y12 y13 y14 y15 y16 y17 y18 y19 y20 y21 y22 y23 y24 y25 y26 y27 y28 y29 y30 y31 y32 y33 y34 y35 y36 y37 : AV}, WP (d + 10) 179 (59, [(4, 0), y1, (2, o), (2, 0), (0, pp 0 0), (0, pp 1 0), (0, pp 2 0), (0, (tm : Int)), y8, y9, y10, y11, y12, y13, y14, y15, y16, y17, y18, y19, y20, y21, y22, y23, y24, y25, y26, y27, y28, y29, y30, y31, y32, y33, y34, y35, y36, y37], [], h, nc, ns) K := by
  intro n
  induction n with
  | zero =>
    intro tm ht ss h nc ns B yr s5 s3 hc hs
    intros
    exact v179_59 ⟨fun z => absurd z (by omega), fun _ => ⟨⟨B.c.t, by omega, by omega⟩, s172 (d := d + 1) B hq (fun h2 => okx ⟨Or.inr rfl, kK h2⟩)⟩⟩
  | succ n ih =>
    intro tm ht ss h nc ns B yr s5 s3 hc hs
    intros
    have hN := B.c.p1
    have hI := B.c.pi
    have key : ∀ (x8 : Int) (h : AH) (ss : TT) (nc ns : Nat), BO h o A pp ss bb tt tp er q dq → ss 0 0 = (tm : Int) → (∀ v, 0 ≤ v → v < pp 2 0 → 0 ≤ ss 5 v ∧ ss 5 v ≤ 10000 * (tm : Int)) → (0 ≤ ss 3 0 ∧ ss 3 0 ≤ 70000 * (tm : Int)) → nc ≤ 2460 + 1460 * tm + 8 → ns ≤ 3030000 + 50400 * tm + 6 * 8 → ∀ {y9 y10 y11 y12 y13 y14 y15 y16 y17 y18 y19 y20 y21 y22 y23 y24 y25 y26 y27 y28 y29 y30 y31 y32 y33 y34 y35 y36 y37 : AV}, WP (d + 10) 179 (114, [(4, 0), y1, (2, o), (2, 0), (0, pp 0 0), (0, pp 1 0), (0, pp 2 0), (0, (tm : Int)), (0, x8), y9, y10, y11, y12, y13, y14, y15, y16, y17, y18, y19, y20, y21, y22, y23, y24, y25, y26, y27, y28, y29, y30, y31, y32, y33, y34, y35, y36, y37], [], h, nc, ns) K := by
      intro x8 h ss nc ns B yr s5 s3 hc hs
      intros
      have hS := B.c.si
      have Y : YB0 pp ss := ⟨hS, B.g.sb, B.g.hb, fun v v0 v1 => by have := s5 v v0 v1; omega, by omega⟩
      have F : YF pp ss (s_year pp tt (-1) ss) tt := YF.mk' hI (by omega) Y (by omega)
      have e0 := F.e0
      refine yYear (a := 2460 + 1460 * tm) (b := 3030000 + 50400 * tm) hq Y (by omega) (by omega) (by omega) B hc hs ?_
      intro h nc ns B hc hs
      intros
      rw [show w32 ((tm : Int) + 1) = ((tm + 1 : Nat) : Int) by rw [w32_id (by omega) (by omega)]; omega]
      refine ih (tm + 1) (by omega) _ h nc ns B (by omega) (fun v v0 v1 => ?_) ?_ (yb0 hc (by decide)) (yb0 hs (by decide))
      · have m := F.m v v0 v1
        have p4 := F.I.purse v0 v1
        have z := s5 v v0 v1
        omega
      · have o := F.o
        have b1 := sm_bd (f := f_nw ss (s_year pp tt (-1) ss)) (B := 9999) (n := (pp 1 0).toNat) (fun i hi => by
          have := hS.cost (i := (i : Int)) (by omega) (by omega)
          unfold f_nw
          split <;> omega)
        omega
    refine v179_59 ⟨fun _ => ⟨by decide, s174 (Int.tmod_nonneg _ (by omega)) (fun r => okx ⟨by decide, s173 (by decide) (fun r2 _ _ => okx ⟨fun _ => ⟨by decide, ⟨by omega, by omega⟩, s178 (d := d + 7) B (fun h2 s2 B2 ak => okx ⟨fun z => absurd z (by decide), fun _ => ?_⟩)⟩, fun _ => ?_⟩)⟩)⟩, fun z => absurd (show (tm : Int) < 50 by omega) z⟩
    · exact key _ h2 s2 _ _ B2 (by rw [ak.y]; exact yr) (fun v v0 v1 => by rw [ak.v v]; exact s5 v v0 v1) (by rw [ak.o]; exact s3) (by omega) (by omega)
    · exact key _ h ss _ _ B yr s5 s3 (by omega) (by omega)
end
theorem law_all {L : Nat} {xs : Nat → Int32} : WPS 2000 179 (0, am_ent 38 [(4, 0)], [], am_h0 L xs, 0, 0) am_K0 := by
  refine law_start ?_
  intro h2 o a A2 f bb tt tp q dq y8 y9 y10 y11 y12 y13 y14 y15 y16 y17 y18 y19 y20 y21 y22 y23 y24 y25 y26 y27 y28 y29 y30 y31 y32 y33 y34 y35 y36 y37 nc ns hc hs B hq
  exact y59 (d := 1990) hq (fun _ => ⟨rfl, rfl⟩) 50 0 rfl (s_bg f 0) h2 nc ns B rfl (fun v _ _ => by show 0 ≤ (0 : Int) ∧ (0 : Int) ≤ 10000 * ((0 : Nat) : Int); omega) (by show 0 ≤ (0 : Int) ∧ (0 : Int) ≤ 70000 * ((0 : Nat) : Int); omega) (by omega) (by omega)
