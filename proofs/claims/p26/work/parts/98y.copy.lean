/-! ===== the law's own jury: its rows, copied ===== -/
theorem s168 {d : Nat} {h : AH} {R n L : Int} {r : Int → Int} {K : AK} (rt : am_t h R = 24) (rl : am_l h R = n) (hn : 0 ≤ n ∧ n ≤ 7) (hL : 0 ≤ L ∧ L ≤ 5) (rb : R < am_n h) (n0 : 0 ≤ am_n h) (rr : ∀ i, 0 ≤ i → i < n → am_m h R i = r i ∧ am_t h (r i) = 20 ∧ am_l h (r i) = L ∧ r i < am_n h)
    (k : ∀ h2, FP (am_n h) (am_n h) h h2 → am_n h2 = am_n h + 1 + n → am_t h2 (am_n h) = 24 → am_l h2 (am_n h) = n → (∀ i, 0 ≤ i → i < n → am_m h2 (am_n h) i = am_n h + 1 + i ∧ am_t h2 (am_n h + 1 + i) = 20 ∧ am_l h2 (am_n h + 1 + i) = L ∧ ∀ j, am_m h2 (am_n h + 1 + i) j = am_m h (r i) j) → K 0 (am_n h) h2) : am_call d 168 [(2, R)] h K := by
  refine v168 ⟨by rw [rt]; decide, ⟨⟨⟨by omega, by omega⟩, Or.inr n0⟩, by decide, by omega⟩, by omega, ?_⟩
  rw [rl]
  refine lp_in (S := AH × Nat × Nat) (fun i s => (8, [(2, R), (2, am_n h), (0, (i : Int))], [], s.1, s.2.1, s.2.2)) (fun i s => FP (am_n h) (am_n h) h s.1 ∧ am_n s.1 = am_n h + 1 + (i : Int) ∧ am_t s.1 (am_n h) = 24 ∧ am_l s.1 (am_n h) = n ∧ (∀ q, 0 ≤ q → q < (i : Int) → am_m s.1 (am_n h) q = am_n h + 1 + q ∧ am_t s.1 (am_n h + 1 + q) = 20 ∧ am_l s.1 (am_n h + 1 + q) = L ∧ ∀ j, am_m s.1 (am_n h + 1 + q) j = am_m h (r q) j) ∧ s.2.1 ≤ 1 + i ∧ s.2.2 ≤ 7 + 5 * i) n.toNat (fun i s hi I nx => ?_) (fun s I => ?_) (am_a h 24 n (fun _ => -1), 1, 0 + n.toNat) ⟨FP.rf.al, by show am_n h + 1 = _; omega, if_pos rfl, if_pos rfl, fun q h0 h1 => absurd h1 (by show ¬ q < 0; omega), Nat.le_refl _, by show 0 + n.toNat ≤ 7 + 5 * 0; omega⟩
  · obtain ⟨g, nc, ns⟩ := s
    obtain ⟨f, n1, ut, ul, rows, b1, b2⟩ := I
    dsimp only at f n1 ut ul rows b1 b2 ⊢
    obtain ⟨e1, e2, e3, e4⟩ := rr (i : Int) (by omega) (by omega)
    have f' := f
    obtain ⟨f1, f2, f3, f4, f5⟩ := f'
    have q1 : am_m g R (i : Int) = r (i : Int) := (f5 R rb (by omega) (by omega) _).trans e1
    have q2 : am_t g (r (i : Int)) = 20 := (f4 _ e4).1.trans e2
    have q3 : am_l g (r (i : Int)) = L := (f4 _ e4).2.trans e3
    have q4 : ∀ j, am_m g (r (i : Int)) j = am_m h (r (i : Int)) j := fun j => f5 _ e4 (by omega) (by omega) j
    have q5 : am_t g R = 24 := (f4 _ rb).1.trans rt
    have q6 : am_l g R = n := (f4 _ rb).2.trans rl
    have ne : ¬ am_n h = am_n g := by omega
    have t1 : am_t (am_a g 20 L (am_m g (r (i : Int)))) (am_n g) = 20 := if_pos rfl
    have t2 : am_t (am_a g 20 L (am_m g (r (i : Int)))) (am_n h) = 24 := (if_neg ne).trans ut
    have t3 : am_l (am_a g 20 L (am_m g (r (i : Int)))) (am_n h) = n := (if_neg ne).trans ul
    refine v168_8 ?_
    rw [q5, q6, q1, q2, q3, t1, t2, t3, show w32 ((i : Int) + 1) = ((i + 1 : Nat) : Int) by rw [w32_id (by omega) (by omega)]; omega]
    refine ⟨by decide, fun _ => ⟨⟨Or.inl rfl, by omega, by omega⟩, ⟨⟨rfl, Or.inr (by omega)⟩, by omega, by omega⟩, rfl, ⟨Or.inl ⟨rfl, rfl⟩, by omega, by omega⟩, ?_⟩, fun z => absurd (show (i : Int) < n by omega) z⟩
    refine nx (am_w (am_a g 20 L (am_m g (r (i : Int)))) (am_n h) (i : Int) (am_n g), nc + 1, ns + L.toNat) ⟨f.al.w, by show am_n g + 1 = _; omega, t2, t3, fun q h0 h1 => ?_, by show nc + 1 ≤ _; omega, by show ns + L.toNat ≤ _; omega⟩
    dsimp only
    by_cases e : q = (i : Int)
    · subst e
      rw [show am_n h + 1 + (i : Int) = am_n g by omega]
      refine ⟨if_pos ⟨rfl, rfl⟩, t1, if_pos rfl, fun j => ?_⟩
      rw [am_m_w, if_neg (by omega), am_m_a, if_pos rfl]
      exact q4 j
    · obtain ⟨o1, o2, o3, o4⟩ := rows q h0 (by omega)
      have ne2 : ¬ am_n h + 1 + q = am_n g := by omega
      refine ⟨?_, (if_neg ne2).trans o2, (if_neg ne2).trans o3, fun j => ?_⟩
      · rw [am_m_w, if_neg (by omega), am_m_a, if_neg ne]
        exact o1
      · rw [am_m_w, if_neg (by omega), am_m_a, if_neg ne2]
        exact o4 j
  · obtain ⟨g, nc, ns⟩ := s
    obtain ⟨f, n1, ut, ul, rows, b1, b2⟩ := I
    dsimp only at f n1 ut ul rows b1 b2 ⊢
    have f' := f
    obtain ⟨f1, f2, f3, f4, f5⟩ := f'
    refine v168_8 ?_
    rw [(f4 _ rb).1, (f4 _ rb).2, rt, rl]
    exact ⟨by decide, fun z => absurd z (by omega), fun _ => k g f (by omega) ut ul (fun i h0 h1 => rows i h0 (by omega))⟩
/-- a new Sim at s: what its constructor leaves -/
theorem s155 {d : Nat} {h : AH} {s : Int} {K : AK} (t : am_t h s = 7) (hs : s < am_n h) (ns : ¬ s = -1) (hf : am_n h < -6000 ∨ 0 ≤ am_n h)
    (k : ∀ h2, FP s s h h2 → am_n h2 = am_n h + 5 → (∀ i, 0 ≤ i → i < 3 → am_m h2 s i = am_m h s i) → am_m h2 s 3 = 100 → am_m h2 s 4 = am_n h → am_m h2 s 5 = am_n h + 1 → am_m h2 s 6 = am_n h + 2 → am_m h2 s 7 = am_n h + 3 → am_m h2 s 8 = am_n h + 4 → am_m h2 s 9 = -1 → (am_t h2 (am_n h) = 20 ∧ am_l h2 (am_n h) = 0) → K 0 0 h2) : am_call d 155 [(2, s)] h K := by
  have N : ∀ i : Int, 0 ≤ i → i < 10 → ¬ s = am_n h + i := fun i h0 _ => by omega
  have F : ∀ i : Int, 0 ≤ i → i < 10 → (am_n h + i < -5000 ∨ 0 ≤ am_n h + i) := fun i h0 h1 => by omega
  have T : ∀ (g : AH) (t2 : Nat) (n : Int) (f : Int → Int) (i : Int), am_n g = am_n h + i → 0 ≤ i → i < 10 → am_t g s = 7 → am_t (am_a g t2 n f) s = 7 := fun g t2 n f i e i0 i1 z => (if_neg (by rw [show g.2.2.2.1 = am_n g from rfl, e]; exact N i i0 i1)).trans z
  have F0 : ∀ (g : AH) (i : Int), am_n g = am_n h + i → 0 ≤ i → i < 10 → am_fr g := fun g i e i0 i1 => by unfold am_fr; rw [e]; exact F i i0 i1
  have T0 : am_t (am_a (am_w h s 3 100) 20 0 (fun _ => 0)) s = 7 := T _ 20 0 (fun _ => 0) 0 (by show am_n h = _; omega) (by decide) (by decide) t
  have T1 : am_t (am_a (am_w (am_a (am_w h s 3 100) 20 0 (fun _ => 0)) s 4 (am_n h)) 24 0 (fun _ => -1)) s = 7 := T _ 24 0 (fun _ => -1) 1 rfl (by decide) (by decide) T0
  have T2 : am_t (am_a (am_w (am_a (am_w (am_a (am_w h s 3 100) 20 0 (fun _ => 0)) s 4 (am_n h)) 24 0 (fun _ => -1)) s 5 (am_n h + 1)) 24 0 (fun _ => -1)) s = 7 := T _ 24 0 (fun _ => -1) 2 (by show am_n h + 1 + 1 = _; omega) (by decide) (by decide) T1
  have T3 : am_t (am_a (am_w (am_a (am_w (am_a (am_w (am_a (am_w h s 3 100) 20 0 (fun _ => 0)) s 4 (am_n h)) 24 0 (fun _ => -1)) s 5 (am_n h + 1)) 24 0 (fun _ => -1)) s 6 (am_n h + 1 + 1)) 25 0 (fun _ => -1)) s = 7 := T _ 25 0 (fun _ => -1) 3 (by show am_n h + 1 + 1 + 1 = _; omega) (by decide) (by decide) T2
  have T4 : am_t (am_a (am_w (am_a (am_w (am_a (am_w (am_a (am_w (am_a (am_w h s 3 100) 20 0 (fun _ => 0)) s 4 (am_n h)) 24 0 (fun _ => -1)) s 5 (am_n h + 1)) 24 0 (fun _ => -1)) s 6 (am_n h + 1 + 1)) 25 0 (fun _ => -1)) s 7 (am_n h + 1 + 1 + 1)) 24 0 (fun _ => -1)) s = 7 := T _ 24 0 (fun _ => -1) 4 (by show am_n h + 1 + 1 + 1 + 1 = _; omega) (by decide) (by decide) T3
  refine v155 ⟨ns, v155_4 ⟨t, v155_10 ⟨⟨⟨by decide, F0 _ 0 (by show am_n h = _; omega) (by decide) (by decide)⟩, by decide, by decide⟩, T0, v155_17 ⟨⟨⟨by decide, F0 _ 1 rfl (by decide) (by decide)⟩, by decide, by decide⟩, T1, v155_25 ⟨⟨⟨by decide, F0 _ 2 (by show am_n h + 1 + 1 = _; omega) (by decide) (by decide)⟩, by decide, by decide⟩, T2, v155_33 ⟨⟨⟨by decide, F0 _ 3 (by show am_n h + 1 + 1 + 1 = _; omega) (by decide) (by decide)⟩, by decide, by decide⟩, T3, v155_41 ⟨⟨⟨by decide, F0 _ 4 (by show am_n h + 1 + 1 + 1 + 1 = _; omega) (by decide) (by decide)⟩, by decide, by decide⟩, T4, v155_49 ⟨T4, v155_54 ?_⟩⟩⟩⟩⟩⟩⟩⟩
  · have F1 : FP s s h _ := ((((((FP.rf (a := s) (v := s) (h := h)).w (i := 3) (x := 100)).al (n := 0) (t := 20) (f := fun _ => 0)).w (i := 4) (x := am_n h)).al (n := 0) (t := 24) (f := fun _ => -1)).w (i := 5) (x := am_n h + 1)).al (n := 0) (t := 24) (f := fun _ => -1)
    have F2 : FP s s h _ := (((((F1.w (i := 6) (x := am_n h + 1 + 1)).al (n := 0) (t := 25) (f := fun _ => -1)).w (i := 7) (x := am_n h + 1 + 1 + 1)).al (n := 0) (t := 24) (f := fun _ => -1)).w (i := 8) (x := am_n h + 1 + 1 + 1 + 1)).w (i := 9) (x := -1)
    have M : ∀ (g : AH) (t2 : Nat) (n : Int) (f : Int → Int) (i j : Int), am_n g = am_n h + i → 0 ≤ i → i < 10 → am_m (am_a g t2 n f) s j = am_m g s j := fun g t2 n f i j e i0 i1 => if_neg (by rw [show g.2.2.2.1 = am_n g from rfl, e]; exact N i i0 i1)
    have M0 := fun (g : AH) t2 n f j (e : am_n g = am_n h) => M g t2 n f 0 j (by omega) (by decide) (by decide)
    have M1 := fun (g : AH) t2 n f j (e : am_n g = am_n h + 1) => M g t2 n f 1 j e (by decide) (by decide)
    have M2 := fun (g : AH) t2 n f j (e : am_n g = am_n h + 1 + 1) => M g t2 n f 2 j (by omega) (by decide) (by decide)
    have M3 := fun (g : AH) t2 n f j (e : am_n g = am_n h + 1 + 1 + 1) => M g t2 n f 3 j (by omega) (by decide) (by decide)
    have M4 := fun (g : AH) t2 n f j (e : am_n g = am_n h + 1 + 1 + 1 + 1) => M g t2 n f 4 j (by omega) (by decide) (by decide)
    refine k _ F2 (by show am_n h + 1 + 1 + 1 + 1 + 1 = _; omega) (fun i i0 i3 => ?_) ?_ ?_ ?_ ?_ ?_ ?_ ?_ ?_
    · rw [am_m_w, if_neg (by omega), am_m_w, if_neg (by omega), M4 _ _ _ _ _ rfl, am_m_w, if_neg (by omega), M3 _ _ _ _ _ rfl, am_m_w, if_neg (by omega), M2 _ _ _ _ _ rfl, am_m_w, if_neg (by omega), M1 _ _ _ _ _ rfl, am_m_w, if_neg (by omega), M0 (am_w h s 3 100) _ _ _ _ rfl, am_m_w, if_neg (by omega)]
    · rw [am_m_w, if_neg (by omega), am_m_w, if_neg (by omega), M4 _ _ _ _ _ rfl, am_m_w, if_neg (by omega), M3 _ _ _ _ _ rfl, am_m_w, if_neg (by omega), M2 _ _ _ _ _ rfl, am_m_w, if_neg (by omega), M1 _ _ _ _ _ rfl, am_m_w, if_neg (by omega), M0 (am_w h s 3 100) _ _ _ _ rfl, am_m_w, if_pos ⟨rfl, rfl⟩]
    · rw [am_m_w, if_neg (by omega), am_m_w, if_neg (by omega), M4 _ _ _ _ _ rfl, am_m_w, if_neg (by omega), M3 _ _ _ _ _ rfl, am_m_w, if_neg (by omega), M2 _ _ _ _ _ rfl, am_m_w, if_neg (by omega), M1 _ _ _ _ _ rfl, am_m_w, if_pos ⟨rfl, rfl⟩]
      rfl
    · rw [am_m_w, if_neg (by omega), am_m_w, if_neg (by omega), M4 _ _ _ _ _ rfl, am_m_w, if_neg (by omega), M3 _ _ _ _ _ rfl, am_m_w, if_neg (by omega), M2 _ _ _ _ _ rfl, am_m_w, if_pos ⟨rfl, rfl⟩]
      rfl
    · rw [am_m_w, if_neg (by omega), am_m_w, if_neg (by omega), M4 _ _ _ _ _ rfl, am_m_w, if_neg (by omega), M3 _ _ _ _ _ rfl, am_m_w, if_pos ⟨rfl, rfl⟩]
      show am_n h + 1 + 1 = _; omega
    · rw [am_m_w, if_neg (by omega), am_m_w, if_neg (by omega), M4 _ _ _ _ _ rfl, am_m_w, if_pos ⟨rfl, rfl⟩]
      show am_n h + 1 + 1 + 1 = _; omega
    · rw [am_m_w, if_neg (by omega), am_m_w, if_pos ⟨rfl, rfl⟩]
      show am_n h + 1 + 1 + 1 + 1 = _; omega
    · rw [am_m_w, if_pos ⟨rfl, rfl⟩]
    · have n1 : ¬ am_n h = am_n h + 1 := by omega
      have n2 : ¬ am_n h = am_n h + 1 + 1 := by omega
      have n3 : ¬ am_n h = am_n h + 1 + 1 + 1 := by omega
      have n4 : ¬ am_n h = am_n h + 1 + 1 + 1 + 1 := by omega
      constructor
      · exact (if_neg n4).trans ((if_neg n3).trans ((if_neg n2).trans ((if_neg n1).trans (if_pos rfl))))
      · exact (if_neg n4).trans ((if_neg n3).trans ((if_neg n2).trans ((if_neg n1).trans (if_pos rfl))))
/-! ===== the law's jury and the class's side by side ===== -/
def AO (A pp : TT) (a : Int) (Q : Int → Prop) : Prop := Q a ∧ Q (A 0 0) ∧ Q (A 1 0) ∧ Q (A 2 0) ∧ Q (A 3 0) ∧ Q (A 4 0) ∧ (∀ i, 0 ≤ i → i < pp 1 0 → Q (A 5 i)) ∧ (∀ i, 0 ≤ i → i < pp 2 0 → Q (A 6 i) ∧ Q (A 7 i)) ∧ ∀ i, 0 ≤ i → i < pp 3 0 → Q (A 8 i)
theorem AO.mono {A pp : TT} {a : Int} {Q Q2 : Int → Prop} (o : AO A pp a Q) (i : ∀ b, Q b → Q2 b) : AO A pp a Q2 := by
  obtain ⟨oa, o0, o1, o2, o3, o4, o5, o6, o8⟩ := o
  exact ⟨i _ oa, i _ o0, i _ o1, i _ o2, i _ o3, i _ o4, fun j h0 h1 => i _ (o5 j h0 h1), fun j h0 h1 => ⟨i _ (o6 j h0 h1).1, i _ (o6 j h0 h1).2⟩, fun j h0 h1 => i _ (o8 j h0 h1)⟩
theorem SM.kp {h h' : AH} {a : Int} {Q : Int → Prop} {A pp ss : TT} {bb : Int → Int → Int} (x : SM h a A pp ss bb) (o : AO A pp a Q) (f1 : am_n h ≤ am_n h') (f4 : ∀ b, b < am_n h → Q b → am_t h' b = am_t h b ∧ am_l h' b = am_l h b ∧ ∀ i, am_m h' b i = am_m h b i) : SM h' a A pp ss bb := by
  have T : ∀ b, (b < am_n h ∧ Q b) → am_t h' b = am_t h b := fun b hb => (f4 b hb.1 hb.2).1
  have L : ∀ b, (b < am_n h ∧ Q b) → am_l h' b = am_l h b := fun b hb => (f4 b hb.1 hb.2).2.1
  have M : ∀ b i, (b < am_n h ∧ Q b) → am_m h' b i = am_m h b i := fun b i hb => (f4 b hb.1 hb.2).2.2 i
  obtain ⟨⟨ba', b0', b1', b2', b3', b4'⟩, b5', b6', b8'⟩ := x.bd
  obtain ⟨oa, o0, o1, o2, o3, o4, o5, o6, o8⟩ := o
  have ba := And.intro ba' oa
  have b0 := And.intro b0' o0
  have b1 := And.intro b1' o1
  have b2 := And.intro b2' o2
  have b3 := And.intro b3' o3
  have b4 := And.intro b4' o4
  refine ⟨(T _ ba).trans x.t, (M _ _ ba).trans x.m0, (M _ _ ba).trans x.m1, (M _ _ ba).trans x.m2, (M _ _ ba).trans x.m3, (M _ _ ba).trans x.m4, (M _ _ ba).trans x.m5, (M _ _ ba).trans x.m6, (M _ _ ba).trans x.m7, (M _ _ ba).trans x.m8, (M _ _ ba).trans x.m9, ⟨(T _ b0).trans x.caps.1, (L _ b0).trans x.caps.2.1, fun i h0 h1 => (M _ _ b0).trans (x.caps.2.2 i h0 h1)⟩, (T _ b1).trans x.pt, (L _ b1).trans x.pl, fun i h0 h1 => ?_, (T _ b2).trans x.vt, (L _ b2).trans x.vl, fun i h0 h1 => ?_, (T _ b3).trans x.lt, (L _ b3).trans x.ll, fun i h0 h1 => ?_, (T _ b4).trans x.bt, (L _ b4).trans x.bl, fun i h0 h1 => ?_, x.br, x.pi, x.si, x.p1, x.nn, x.nr, ⟨⟨by omega, by omega, by omega, by omega, by omega, by omega⟩, fun i h0 h1 => by have := b5' i h0 h1; omega, fun i h0 h1 => by have := b6' i h0 h1; omega, fun i h0 h1 => by have := b8' i h0 h1; omega⟩, x.dp, x.dv, x.dl, x.dpv, x.dc, x.db⟩
  · obtain ⟨e1, e2, e3, e4, e5, e6, e7, e8⟩ := x.p i h0 h1
    have q := And.intro (b5' i h0 h1) (o5 i h0 h1)
    exact ⟨(M _ _ b1).trans e1, (T _ q).trans e2, (L _ q).trans e3, (M _ _ q).trans e4, (M _ _ q).trans e5, (M _ _ q).trans e6, (M _ _ q).trans e7, (M _ _ q).trans e8⟩
  · obtain ⟨e1, e2, e3, e4, e5⟩ := x.v i h0 h1
    have q := And.intro (b6' i h0 h1).1 (o6 i h0 h1).1
    exact ⟨(M _ _ b2).trans e1, (T _ q).trans e2, (L _ q).trans e3, (M _ _ q).trans e4, (M _ _ q).trans e5⟩
  · obtain ⟨e1, e2, e3, e4⟩ := x.l i h0 h1
    have q := And.intro (b6' i h0 h1).2 (o6 i h0 h1).2
    exact ⟨(M _ _ b3).trans e1, (T _ q).trans e2, (L _ q).trans e3, fun j j0 j1 => (M _ _ q).trans (e4 j j0 j1)⟩
  · obtain ⟨e1, e2, e3, e4⟩ := x.b i h0 h1
    have q := And.intro (b8' i h0 h1) (o8 i h0 h1)
    exact ⟨(M _ _ b4).trans e1, (T _ q).trans e2, (L _ q).trans e3, fun j j0 j1 => (M _ _ q).trans (e4 j j0 j1)⟩
theorem SM.fr {h h' : AH} {a lo n : Int} {A pp ss : TT} {bb : Int → Int → Int} (x : SM h a A pp ss bb) (o : AO A pp a (fun b => b < 0 ∨ 53 ≤ b)) (f : Fr lo n h h') (l0 : 0 ≤ lo) (l1 : lo + n ≤ 53) : SM h' a A pp ss bb := by
  obtain ⟨f1, f2, f3, f4, f5⟩ := f
  exact x.kp o f1 (fun b hb q => ⟨(f4 b hb).1, (f4 b hb).2, fun i => f5 b hb (by omega) i⟩)
theorem SR.ag {A pp : TT} {a b : Int} {Q : Int → Prop} (o : AO A pp a Q) (r : SR A pp a b) : Q b := by
  obtain ⟨oa, o0, o1, o2, o3, o4, o5, o6, o8⟩ := o
  rcases r with e | ⟨i, i0, i1, e⟩ | ⟨i, i0, i1, e | e⟩
  · rw [e]; exact oa
  · rw [e]; exact o5 i i0 i1
  · rw [e]; exact (o6 i i0 i1).1
  · rw [e]; exact (o6 i i0 i1).2
theorem GC.fr2 {h h1 : AH} {pp ss : TT} {tt : Int → List Op} {tp : Int → Int} {tl er q dq lo n : Int} (g : GC h pp ss tt tl tp er q dq) (f : Fr lo n h h1) (hl : 53 ≤ lo ∨ lo + n ≤ 0) : GC h1 pp ss tt tl tp er q dq := by
  have hq := g.qd
  have hn := g.n
  have e0 : ∀ i, am_m h1 0 i = am_m h 0 i := fun i => f.2.2.2.2 0 (by omega) (by omega) i
  have e1 := f.2.2.2.1 0 (by omega)
  have e2 := f.2.2.2.1 1 (by omega)
  have hf := f.1
  obtain ⟨q2, x⟩ := g.tr
  exact ⟨e1.1.trans g.t0, (e0 _).trans g.f0, (e0 _).trans g.f1, (e0 _).trans g.f2, (e0 _).trans g.f3, (e0 _).trans g.f4, (e0 _).trans g.f5, (e0 _).trans g.f6, (e0 _).trans g.f7, (e0 _).trans g.f8, (e0 _).trans g.f9, e2.1.trans g.t1, e2.2.trans g.l1, g.c.fr f (by omega) (by omega), (f.2.2.2.2 35 (by omega) (by omega) 2).trans g.lo, g.ct.fr g.c.Q f (by omega), ⟨q2, x.fr f (by omega)⟩, hq, g.hb, g.sb, by omega, g.tb, fun i z1 z2 => (f.2.2.2.2 1 (by omega) (by omega) i).trans (g.tc i z1 z2)⟩
theorem GC.fx {h h1 : AH} {pp ss : TT} {tt : Int → List Op} {tp : Int → Int} {tl er q dq : Int} {R : Int → Prop} (g : GC h pp ss tt tl tp er q dq) (f : FX R h h1) (hR : ∀ b, R b → -200000000 ≤ b ∧ b < 0) : GC h1 pp ss tt tl tp er q dq :=
  g.fr2 (lo := -200000000) (n := 200000000) ⟨f.1, f.2.1, f.2.2.1, f.2.2.2.1, fun b hb hn i => f.2.2.2.2 b hb (fun r => hn (by have := hR b r; omega)) i⟩ (Or.inr (by decide))
theorem GC.fx3 {h h1 : AH} {pp ss : TT} {tt : Int → List Op} {tp : Int → Int} {tl er q dq : Int} {R : Int → Prop} (g : GC h pp ss tt tl tp er q dq) (f : FX R h h1) (hR : ∀ b, R b → 53 ≤ b) : GC h1 pp ss tt tl tp er q dq :=
  g.fr2 (lo := 53) (n := am_n h) ⟨f.1, f.2.1, f.2.2.1, f.2.2.2.1, fun b hb hn i => f.2.2.2.2 b hb (fun r => hn (by have := hR b r; have := g.n; omega)) i⟩ (Or.inl (by decide))
theorem GC.fp {h h1 : AH} {pp ss : TT} {tt : Int → List Op} {tp : Int → Int} {tl er q dq u w : Int} (g : GC h pp ss tt tl tp er q dq) (f : FP u w h h1) (hu : am_n h ≤ u) (hw : am_n h ≤ w) : GC h1 pp ss tt tl tp er q dq :=
  g.fr2 (lo := 53) (n := 0) ⟨f.1, f.2.1, f.2.2.1, f.2.2.2.1, fun b hb _ i => f.2.2.2.2 b hb (by omega) (by omega) i⟩ (Or.inl (by decide))
/-- both, of one plan and state; the law's lies below 0 -/
def BO (h : AH) (a : Int) (A pp ss : TT) (bb : Int → Int → Int) (tt : Int → List Op) (tp : Int → Int) (er q dq : Int) : Prop := (SM h a A pp ss bb) ∧ (GC h pp ss tt 0 tp er q dq) ∧ (AO A pp a (fun b => -200000000 ≤ b ∧ b < 0))
theorem BO.c {h : AH} {a : Int} {A pp ss : TT} {bb : Int → Int → Int} {tt : Int → List Op} {tp : Int → Int} {er q dq : Int} (x : BO h a A pp ss bb tt tp er q dq) : SM h a A pp ss bb := x.1
theorem BO.g {h : AH} {a : Int} {A pp ss : TT} {bb : Int → Int → Int} {tt : Int → List Op} {tp : Int → Int} {er q dq : Int} (x : BO h a A pp ss bb tt tp er q dq) : GC h pp ss tt 0 tp er q dq := x.2.1
theorem BO.o {h : AH} {a : Int} {A pp ss : TT} {bb : Int → Int → Int} {tt : Int → List Op} {tp : Int → Int} {er q dq : Int} (x : BO h a A pp ss bb tt tp er q dq) : AO A pp a (fun b => -200000000 ≤ b ∧ b < 0) := x.2.2
/-- a row of the law's at u -/
def RO (h : AH) (u n : Int) (F : Int → Int) : Prop := (53 ≤ u ∧ u < am_n h) ∧ (am_t h u = 20) ∧ (am_l h u = n) ∧ (∀ t, 0 ≤ t → t < n → am_m h u t = F t)
theorem RO.b {h : AH} {u n : Int} {F : Int → Int} (x : RO h u n F) : 53 ≤ u ∧ u < am_n h := x.1
theorem RO.t {h : AH} {u n : Int} {F : Int → Int} (x : RO h u n F) : am_t h u = 20 := x.2.1
theorem RO.l {h : AH} {u n : Int} {F : Int → Int} (x : RO h u n F) : am_l h u = n := x.2.2.1
theorem RO.m {h : AH} {u n : Int} {F : Int → Int} (x : RO h u n F) : ∀ t, 0 ≤ t → t < n → am_m h u t = F t := x.2.2.2
section
variable {h h2 : AH} {a : Int} {A pp ss : TT} {bb : Int → Int → Int} {tt : Int → List Op} {tp : Int → Int} {er q dq : Int}
theorem BO.cl {lo n : Int} (B : BO h a A pp ss bb tt tp er q dq) (f : Fr lo n h h2) (l0 : 0 ≤ lo) (l1 : lo + n ≤ 53) (g2 : GC h2 pp ss tt 0 tp er q dq) : BO h2 a A pp ss bb tt tp er q dq :=
  ⟨B.c.fr (B.o.mono (fun b z => Or.inl z.2)) f l0 l1, g2, B.o⟩
theorem BO.fp {u w : Int} (B : BO h a A pp ss bb tt tp er q dq) (f : FP u w h h2) (hu : am_n h ≤ u) (hw : am_n h ≤ w) : BO h2 a A pp ss bb tt tp er q dq :=
  ⟨B.c.fp f hu hw, B.g.fp f hu hw, B.o⟩
theorem RO.fr {u n lo m : Int} {F : Int → Int} (r : RO h u n F) (f : Fr lo m h h2) (l1 : lo + m ≤ 53) : RO h2 u n F := by
  have b := r.b
  obtain ⟨f1, f2, f3, f4, f5⟩ := f
  exact ⟨by omega, (f4 u b.2).1.trans r.t, (f4 u b.2).2.trans r.l, fun t t0 t1 => (f5 u b.2 (by omega) t).trans (r.m t t0 t1)⟩
theorem RO.fp {u n w w2 : Int} {F : Int → Int} (r : RO h u n F) (f : FP w w2 h h2) (hw : am_n h ≤ w) (hw2 : am_n h ≤ w2) : RO h2 u n F := by
  have b := r.b
  obtain ⟨f1, f2, f3, f4, f5⟩ := f
  exact ⟨by omega, (f4 u b.2).1.trans r.t, (f4 u b.2).2.trans r.l, fun t t0 t1 => (f5 u b.2 (by omega) (by omega) t).trans (r.m t t0 t1)⟩
end
/-- an object at u that is being made behind h -/
def OS (h g : AH) (u N : Int) (G : Int → Int) : Prop := (FP u u h g) ∧ (am_t g u = 7) ∧ (∀ j, am_m g u j = G j) ∧ (am_n g = N) ∧ (am_n h ≤ u ∧ u < N)
theorem OS.f {h g : AH} {u N : Int} {G : Int → Int} (x : OS h g u N G) : FP u u h g := x.1
theorem OS.t {h g : AH} {u N : Int} {G : Int → Int} (x : OS h g u N G) : am_t g u = 7 := x.2.1
theorem OS.m {h g : AH} {u N : Int} {G : Int → Int} (x : OS h g u N G) : ∀ j, am_m g u j = G j := x.2.2.1
theorem OS.n {h g : AH} {u N : Int} {G : Int → Int} (x : OS h g u N G) : am_n g = N := x.2.2.2.1
theorem OS.b {h g : AH} {u N : Int} {G : Int → Int} (x : OS h g u N G) : am_n h ≤ u ∧ u < N := x.2.2.2.2
theorem OS.w {h g : AH} {u N i x : Int} {G : Int → Int} (o : OS h g u N G) : OS h (am_w g u i x) u N (vt9 G i x) :=
  ⟨o.f.w, o.t, fun j => by
    rw [am_m_w]
    unfold vt9
    by_cases e : j = i
    · rw [if_pos ⟨rfl, e⟩, if_pos e]
    · rw [if_neg (fun z => e z.2), if_neg e]; exact o.m j, o.n, o.b⟩
theorem OS.fp {h g g2 : AH} {u N N2 w : Int} {G : Int → Int} (o : OS h g u N G) (f2 : FP w w g g2) (hw : am_n g ≤ w) (e : am_n g2 = N2) : OS h g2 u N2 G := by
  have ob := o.b
  have on := o.n
  have f1 := f2.1
  refine ⟨o.f.nn ob.1 f2 hw, ((f2.2.2.2.1 u (by omega)).1).trans o.t, fun j => (f2.2.2.2.2 u (by omega) (by omega) (by omega) j).trans (o.m j), e, by omega⟩
theorem OS.kt {h g : AH} {u N b : Int} {G : Int → Int} (o : OS h g u N G) (hb : b < am_n h) : am_t g b = am_t h b := (o.f.2.2.2.1 b hb).1
theorem OS.kl {h g : AH} {u N b : Int} {G : Int → Int} (o : OS h g u N G) (hb : b < am_n h) : am_l g b = am_l h b := (o.f.2.2.2.1 b hb).2
theorem OS.km {h g : AH} {u N b i : Int} {G : Int → Int} (o : OS h g u N G) (hb : b < am_n h) : am_m g b i = am_m h b i := o.f.2.2.2.2 b hb (by have := o.b.1; omega) (by have := o.b.1; omega) i
def cpA (A : TT) (u1 u2 u3 : Int) : TT := fun k i => if k = 1 then u1 else if k = 2 then u2 else if k = 3 then u3 else if k = 5 then u1 + 1 + i else if k = 6 then u2 + 1 + i else if k = 7 then u3 + 1 + i else A k i
theorem s169 {d : Nat} {h : AH} {a : Int} {A pp ss : TT} {bb : Int → Int → Int} {K : AK} (c : SM h a A pp ss bb) (n0 : 0 ≤ am_n h) (k : ∀ h2 A2, FP (am_n h) (am_n h) h h2 → SM h2 (am_n h) A2 pp ss bb → am_n h2 ≤ am_n h + 40 → (∀ b, SR A2 pp (am_n h) b → am_n h ≤ b) → (∀ Q : Int → Prop, (∀ b, am_n h ≤ b → Q b) → Q (A 0 0) → Q (A 4 0) → (∀ i, 0 ≤ i → i < pp 3 0 → Q (A 8 i)) → AO A2 pp (am_n h) Q) → K 0 (am_n h) h2) : am_call (d + 1) 169 [(2, a)] h K := by
  have hN := c.p1
  obtain ⟨⟨ba, b0, b1, b2, b3, b4⟩, b5, b6, b8⟩ := c.bd
  refine v169 ⟨⟨Or.inr n0, by decide, by decide⟩, ⟨by omega, by decide, by decide⟩, s155 (if_pos rfl) (by show am_n h < am_n h + 1; omega) (by omega) (Or.inr (by show 0 ≤ am_n h + 1; omega)) (fun g f1 n1 e02 e3 e4 e5 e6 e7 e8 e9 e10 => okx ?_)⟩
  have O0 : OS h g (am_n h) (am_n h + 6) (am_m g (am_n h)) := ⟨((FP.rf (a := am_n h) (v := am_n h) (h := h)).al).tr (Or.inl rfl) f1, ((f1.2.2.2.1 (am_n h) (by show am_n h < am_n h + 1; omega)).1).trans (if_pos rfl), fun j => rfl, by rw [n1]; show am_n h + 1 + 5 = _; omega, by omega⟩
  have hg9 : am_m g (am_n h) 9 = -1 := e9
  clear f1 n1 e02 e3 e4 e5 e6 e7 e8 e9 e10
  generalize am_m g (am_n h) = G at O0 hg9
  refine v169_7 ⟨by omega, (O0.kt ba).trans c.t, O0.t, ?_⟩
  rw [O0.km ba, c.m0]
  have O1 := O0.w (i := 0) (x := ss 0 0)
  generalize am_w g (am_n h) 0 (ss 0 0) = g1 at O1 ⊢
  refine v169_16 ⟨(O1.kt ba).trans c.t, O1.t, ?_⟩
  rw [O1.km ba, c.m1]
  have O2 := O1.w (i := 1) (x := ss 2 0)
  generalize am_w g1 (am_n h) 1 (ss 2 0) = g2 at O2 ⊢
  refine v169_24 ⟨(O2.kt ba).trans c.t, O2.t, ?_⟩
  rw [O2.km ba, c.m2]
  have O3 := O2.w (i := 2) (x := ss 3 0)
  generalize am_w g2 (am_n h) 2 (ss 3 0) = g3 at O3 ⊢
  refine v169_32 ⟨(O3.kt ba).trans c.t, O3.t, ?_⟩
  rw [O3.km ba, c.m3]
  have O4 := O3.w (i := 3) (x := ss 1 0)
  generalize am_w g3 (am_n h) 3 (ss 1 0) = g4 at O4 ⊢
  refine v169_40 ⟨(O4.kt ba).trans c.t, O4.t, ?_⟩
  rw [O4.km ba, c.m4]
  have O5 := O4.w (i := 4) (x := A 0 0)
  generalize am_w g4 (am_n h) 4 (A 0 0) = g5 at O5 ⊢
  clear O0 O1 O2 O3 O4
  refine v169_48 ⟨(O5.kt ba).trans c.t, ⟨by decide, by decide⟩, ?_⟩
  rw [O5.km ba, c.m5]
  have on5 := O5.n
  refine s168 (r := A 5) (n := pp 1 0) (L := 5) ((O5.kt b1).trans c.pt) ((O5.kl b1).trans c.pl) (by omega) (by decide) (by omega) (by omega) (fun i i0 i1 => ?_) (fun g6 f6 n6 t6 l6 r6 => okx ?_)
  · obtain ⟨p1, p2, p3, -⟩ := c.p i i0 i1
    exact ⟨(O5.km b1).trans p1, (O5.kt (b5 i i0 i1)).trans p2, (O5.kl (b5 i i0 i1)).trans p3, by have := b5 i i0 i1; omega⟩
  rw [on5] at f6 n6 t6 l6 r6
  rw [on5]
  have r6' : ∀ i, 0 ≤ i → i < pp 1 0 → am_m g6 (am_n h + 6) i = am_n h + 6 + 1 + i ∧ am_t g6 (am_n h + 6 + 1 + i) = 20 ∧ am_l g6 (am_n h + 6 + 1 + i) = 5 ∧ ∀ j, am_m g6 (am_n h + 6 + 1 + i) j = am_m h (A 5 i) j := fun i i0 i1 => by
    obtain ⟨z1, z2, z3, z4⟩ := r6 i i0 i1
    exact ⟨z1, z2, z3, fun j => (z4 j).trans (O5.km (b5 i i0 i1))⟩
  have O6 := O5.fp f6 (by omega) n6
  clear O5 f6 r6
  refine v169_56 ⟨O6.t, ?_⟩
  have O7 := O6.w (i := 5) (x := am_n h + 6)
  have r7 : ∀ i, 0 ≤ i → i < pp 1 0 → am_m (am_w g6 (am_n h) 5 (am_n h + 6)) (am_n h + 6) i = am_n h + 6 + 1 + i ∧ am_t (am_w g6 (am_n h) 5 (am_n h + 6)) (am_n h + 6 + 1 + i) = 20 ∧ am_l (am_w g6 (am_n h) 5 (am_n h + 6)) (am_n h + 6 + 1 + i) = 5 ∧ ∀ j, am_m (am_w g6 (am_n h) 5 (am_n h + 6)) (am_n h + 6 + 1 + i) j = am_m h (A 5 i) j := fun i i0 i1 => by
    obtain ⟨z1, z2, z3, z4⟩ := r6' i i0 i1
    exact ⟨by rw [am_m_w, if_neg (by omega)]; exact z1, z2, z3, fun j => by rw [am_m_w, if_neg (by omega)]; exact z4 j⟩
  have t7 : am_t (am_w g6 (am_n h) 5 (am_n h + 6)) (am_n h + 6) = 24 := t6
  have l7 : am_l (am_w g6 (am_n h) 5 (am_n h + 6)) (am_n h + 6) = pp 1 0 := l6
  generalize am_w g6 (am_n h) 5 (am_n h + 6) = g7 at O7 r7 t7 l7 ⊢
  clear O6 r6' t6 l6 n6
  have on7 := O7.n
  refine v169_59 ⟨(O7.kt ba).trans c.t, ⟨by decide, by decide⟩, ?_⟩
  rw [O7.km ba, c.m6]
  refine s168 (r := A 6) (n := pp 2 0) (L := 3) ((O7.kt b2).trans c.vt) ((O7.kl b2).trans c.vl) (by omega) (by decide) (by omega) (by omega) (fun i i0 i1 => ?_) (fun g8 f8 n8 t8 l8 r8 => okx ?_)
  · obtain ⟨p1, p2, p3, -⟩ := c.v i i0 i1
    exact ⟨(O7.km b2).trans p1, (O7.kt (b6 i i0 i1).1).trans p2, (O7.kl (b6 i i0 i1).1).trans p3, by have := (b6 i i0 i1).1; omega⟩
  rw [on7] at f8 n8 t8 l8 r8
  rw [on7]
  have r8' : ∀ i, 0 ≤ i → i < pp 2 0 → am_m g8 (am_n h + 6 + 1 + pp 1 0) i = am_n h + 6 + 1 + pp 1 0 + 1 + i ∧ am_t g8 (am_n h + 6 + 1 + pp 1 0 + 1 + i) = 20 ∧ am_l g8 (am_n h + 6 + 1 + pp 1 0 + 1 + i) = 3 ∧ ∀ j, am_m g8 (am_n h + 6 + 1 + pp 1 0 + 1 + i) j = am_m h (A 6 i) j := fun i i0 i1 => by
    obtain ⟨z1, z2, z3, z4⟩ := r8 i i0 i1
    exact ⟨z1, z2, z3, fun j => (z4 j).trans (O7.km (b6 i i0 i1).1)⟩
  have r8p : ∀ i, 0 ≤ i → i < pp 1 0 → am_m g8 (am_n h + 6) i = am_n h + 6 + 1 + i ∧ am_t g8 (am_n h + 6 + 1 + i) = 20 ∧ am_l g8 (am_n h + 6 + 1 + i) = 5 ∧ ∀ j, am_m g8 (am_n h + 6 + 1 + i) j = am_m h (A 5 i) j := fun i i0 i1 => by
    obtain ⟨z1, z2, z3, z4⟩ := r7 i i0 i1
    exact ⟨(f8.2.2.2.2 _ (by omega) (by omega) (by omega) _).trans z1, ((f8.2.2.2.1 _ (by omega)).1).trans z2, ((f8.2.2.2.1 _ (by omega)).2).trans z3, fun j => (f8.2.2.2.2 _ (by omega) (by omega) (by omega) _).trans (z4 j)⟩
  have t8p : am_t g8 (am_n h + 6) = 24 := ((f8.2.2.2.1 _ (by omega)).1).trans t7
  have l8p : am_l g8 (am_n h + 6) = pp 1 0 := ((f8.2.2.2.1 _ (by omega)).2).trans l7
  have O8 := O7.fp f8 (by omega) n8
  clear O7 f8 r8 r7 t7 l7
  refine v169_67 ⟨O8.t, ?_⟩
  have O9 := O8.w (i := 6) (x := am_n h + 6 + 1 + pp 1 0)
  have r9p : ∀ i, 0 ≤ i → i < pp 1 0 → am_m (am_w g8 (am_n h) 6 (am_n h + 6 + 1 + pp 1 0)) (am_n h + 6) i = am_n h + 6 + 1 + i ∧ am_t (am_w g8 (am_n h) 6 (am_n h + 6 + 1 + pp 1 0)) (am_n h + 6 + 1 + i) = 20 ∧ am_l (am_w g8 (am_n h) 6 (am_n h + 6 + 1 + pp 1 0)) (am_n h + 6 + 1 + i) = 5 ∧ ∀ j, am_m (am_w g8 (am_n h) 6 (am_n h + 6 + 1 + pp 1 0)) (am_n h + 6 + 1 + i) j = am_m h (A 5 i) j := fun i i0 i1 => by
    obtain ⟨z1, z2, z3, z4⟩ := r8p i i0 i1
    exact ⟨by rw [am_m_w, if_neg (by omega)]; exact z1, z2, z3, fun j => by rw [am_m_w, if_neg (by omega)]; exact z4 j⟩
  have r9v : ∀ i, 0 ≤ i → i < pp 2 0 → am_m (am_w g8 (am_n h) 6 (am_n h + 6 + 1 + pp 1 0)) (am_n h + 6 + 1 + pp 1 0) i = am_n h + 6 + 1 + pp 1 0 + 1 + i ∧ am_t (am_w g8 (am_n h) 6 (am_n h + 6 + 1 + pp 1 0)) (am_n h + 6 + 1 + pp 1 0 + 1 + i) = 20 ∧ am_l (am_w g8 (am_n h) 6 (am_n h + 6 + 1 + pp 1 0)) (am_n h + 6 + 1 + pp 1 0 + 1 + i) = 3 ∧ ∀ j, am_m (am_w g8 (am_n h) 6 (am_n h + 6 + 1 + pp 1 0)) (am_n h + 6 + 1 + pp 1 0 + 1 + i) j = am_m h (A 6 i) j := fun i i0 i1 => by
    obtain ⟨z1, z2, z3, z4⟩ := r8' i i0 i1
    exact ⟨by rw [am_m_w, if_neg (by omega)]; exact z1, z2, z3, fun j => by rw [am_m_w, if_neg (by omega)]; exact z4 j⟩
  have t9p : am_t (am_w g8 (am_n h) 6 (am_n h + 6 + 1 + pp 1 0)) (am_n h + 6) = 24 := t8p
  have l9p : am_l (am_w g8 (am_n h) 6 (am_n h + 6 + 1 + pp 1 0)) (am_n h + 6) = pp 1 0 := l8p
  have t9v : am_t (am_w g8 (am_n h) 6 (am_n h + 6 + 1 + pp 1 0)) (am_n h + 6 + 1 + pp 1 0) = 24 := t8
  have l9v : am_l (am_w g8 (am_n h) 6 (am_n h + 6 + 1 + pp 1 0)) (am_n h + 6 + 1 + pp 1 0) = pp 2 0 := l8
  generalize am_w g8 (am_n h) 6 (am_n h + 6 + 1 + pp 1 0) = g9 at O9 r9p r9v t9p l9p t9v l9v ⊢
  clear O8 r8' r8p t8p l8p t8 l8 n8
  have on9 := O9.n
  refine v169_70 ?_
  rw [O9.km ba, c.m7, O9.kt ba, c.t, O9.kt b3, c.lt, O9.kl b3, c.ll, on9]
  refine ⟨rfl, by decide, ⟨⟨⟨by omega, by omega⟩, Or.inr (by omega)⟩, by decide, by omega⟩, (if_neg (by rw [show g9.2.2.2.1 = am_n g9 from rfl, on9]; omega)).trans O9.t, v169_82 ?_⟩
  have P0 : FP (am_n h) (am_n h + 6 + 1 + pp 1 0 + 1 + pp 2 0) g9 (am_w (am_a g9 25 (pp 2 0) (fun _ => -1)) (am_n h) 7 (am_n h + 6 + 1 + pp 1 0 + 1 + pp 2 0)) := FP.rf.al.w
  have O10 : OS h (am_w (am_a g9 25 (pp 2 0) (fun _ => -1)) (am_n h) 7 (am_n h + 6 + 1 + pp 1 0 + 1 + pp 2 0)) (am_n h) (am_n h + 6 + 1 + pp 1 0 + 1 + pp 2 0 + 1) (vt9 _ 7 (am_n h + 6 + 1 + pp 1 0 + 1 + pp 2 0)) := (O9.fp (w := am_n g9) (FP.rf.al (n := pp 2 0) (t := 25) (f := fun _ => -1)) (Int.le_refl _) (by show am_n g9 + 1 = _; omega)).w
  have t10 : am_t (am_w (am_a g9 25 (pp 2 0) (fun _ => -1)) (am_n h) 7 (am_n h + 6 + 1 + pp 1 0 + 1 + pp 2 0)) (am_n h + 6 + 1 + pp 1 0 + 1 + pp 2 0) = 25 := if_pos (by rw [show g9.2.2.2.1 = am_n g9 from rfl, on9])
  have l10 : am_l (am_w (am_a g9 25 (pp 2 0) (fun _ => -1)) (am_n h) 7 (am_n h + 6 + 1 + pp 1 0 + 1 + pp 2 0)) (am_n h + 6 + 1 + pp 1 0 + 1 + pp 2 0) = pp 2 0 := if_pos (by rw [show g9.2.2.2.1 = am_n g9 from rfl, on9])
  generalize am_w (am_a g9 25 (pp 2 0) (fun _ => -1)) (am_n h) 7 (am_n h + 6 + 1 + pp 1 0 + 1 + pp 2 0) = g10 at P0 O10 t10 l10 ⊢
  clear O9
  generalize hU3 : am_n h + 6 + 1 + pp 1 0 + 1 + pp 2 0 = U3 at *
  generalize hU2 : am_n h + 6 + 1 + pp 1 0 = U2 at *
  generalize hU1 : am_n h + 6 = U1 at *
  generalize hG : vt9 _ 7 U3 = G10 at O10
  have gv : G10 0 = ss 0 0 ∧ G10 1 = ss 2 0 ∧ G10 2 = ss 3 0 ∧ G10 3 = ss 1 0 ∧ G10 4 = A 0 0 ∧ G10 5 = U1 ∧ G10 6 = U2 ∧ G10 7 = U3 ∧ G10 9 = -1 := by
    rw [← hG]
    simp [vt9, hg9]
  clear hG
  refine lp_in (S := AH × Nat × Nat) (fun i s => (84, [(2, a), (2, am_n h), (0, (i : Int))], [], s.1, s.2.1, s.2.2)) (fun i s => OS h s.1 (am_n h) (U3 + 1 + (i : Int)) G10 ∧ FP (am_n h) U3 g9 s.1 ∧ am_t s.1 U3 = 25 ∧ am_l s.1 U3 = pp 2 0 ∧ (∀ q, 0 ≤ q → q < (i : Int) → am_m s.1 U3 q = U3 + 1 + q ∧ am_t s.1 (U3 + 1 + q) = 23 ∧ am_l s.1 (U3 + 1 + q) = pp 1 0 ∧ ∀ j, am_m s.1 (U3 + 1 + q) j = am_m h (A 7 q) j) ∧ s.2.1 ≤ 39 + i ∧ s.2.2 ≤ 337 + 7 * i) (pp 2 0).toNat (fun i s hi I nx => ?_) (fun s I => ?_) (g10, 6 + 16 + 16 + 1, 10 + 160 + 160 + (pp 2 0 : Int).toNat) ⟨by show OS _ _ _ (U3 + 1 + 0) _; rw [Int.add_zero]; exact O10, P0, t10, l10, fun q h0 h1 => absurd h1 (by show ¬ q < 0; omega), by show 39 ≤ 39 + 0; omega, by show 10 + 160 + 160 + (pp 2 0 : Int).toNat ≤ 337 + 7 * 0; omega⟩
  · obtain ⟨g, nc, ns⟩ := s
    obtain ⟨o, f, ut, ul, rows, q1, q2⟩ := I
    dsimp only at o f ut ul rows q1 q2 ⊢
    obtain ⟨e1, e2, e3, e4⟩ := c.l (i : Int) (by omega) (by omega)
    have b7 := (b6 (i : Int) (by omega) (by omega)).2
    have on := o.n
    have g7 : am_m g (am_n h) 7 = U3 := (o.m 7).trans gv.2.2.2.2.2.2.2.1
    have ne : ¬ U3 = am_n g := by omega
    have t1 : am_t (am_a g 23 (pp 1 0) (am_m g (A 7 (i : Int)))) (am_n g) = 23 := if_pos rfl
    have t2 : am_t (am_a g 23 (pp 1 0) (am_m g (A 7 (i : Int)))) U3 = 25 := (if_neg ne).trans ut
    have t3 : am_l (am_a g 23 (pp 1 0) (am_m g (A 7 (i : Int)))) U3 = pp 2 0 := (if_neg ne).trans ul
    refine v169_84 ?_
    rw [o.km ba, c.m7, o.kt ba, c.t, o.kt b3, c.lt, o.kl b3, c.ll, o.km b3, e1, o.kt b7, e2, o.kl b7, e3, o.t, g7]
    refine ⟨rfl, by decide, fun _ => ⟨rfl, rfl, ⟨Or.inr rfl, by omega, by omega⟩, ⟨⟨rfl, Or.inr (by omega)⟩, by omega, by omega⟩, v169_107 ?_⟩, fun z => absurd (show (i : Int) < pp 2 0 by omega) z⟩
    rw [t1, t2, t3, show w32 ((i : Int) + 1) = ((i + 1 : Nat) : Int) by rw [w32_id (by omega) (by omega)]; omega]
    refine ⟨rfl, ⟨Or.inr ⟨rfl, rfl⟩, by omega, by omega⟩, nx (am_w (am_a g 23 (pp 1 0) (am_m g (A 7 (i : Int)))) U3 (i : Int) (am_n g), nc + 1, ns + (pp 1 0 : Int).toNat) ⟨?_, f.al.w2 (Or.inl rfl), t2, t3, fun q h0 h1 => ?_, by show nc + 1 ≤ _; omega, by show ns + (pp 1 0 : Int).toNat ≤ _; omega⟩⟩
    · refine ⟨?_, ?_, fun j => ?_, by show am_n g + 1 = _; omega, by omega⟩
      · have := o.b
        exact o.f.al.w2 (Or.inr (by omega))
      · exact (if_neg (by rw [show g.2.2.2.1 = am_n g from rfl]; omega)).trans o.t
      · dsimp only
        rw [am_m_w, if_neg (by omega), am_m_a, if_neg (by omega)]
        exact o.m j
    · dsimp only
      by_cases e : q = (i : Int)
      · subst e
        rw [show U3 + 1 + (i : Int) = am_n g by omega]
        refine ⟨if_pos ⟨rfl, rfl⟩, t1, if_pos rfl, fun j => ?_⟩
        rw [am_m_w, if_neg (by omega), am_m_a, if_pos rfl]
        exact o.km b7
      · obtain ⟨o1, o2, o3, o4⟩ := rows q h0 (by omega)
        have ne2 : ¬ U3 + 1 + q = am_n g := by omega
        refine ⟨?_, (if_neg ne2).trans o2, (if_neg ne2).trans o3, fun j => ?_⟩
        · rw [am_m_w, if_neg (by omega), am_m_a, if_neg ne]
          exact o1
        · rw [am_m_w, if_neg (by omega), am_m_a, if_neg ne2]
          exact o4 j
  · obtain ⟨g, nc, ns⟩ := s
    obtain ⟨o, f, ut, ul, rows, q1, q2⟩ := I
    dsimp only at o f ut ul rows q1 q2 ⊢
    have on := o.n
    refine v169_84 ?_
    rw [o.km ba, c.m7, o.kt ba, c.t, o.kt b3, c.lt, o.kl b3, c.ll, o.km ba, c.m8]
    refine ⟨rfl, by decide, fun z => absurd z (by omega), fun _ => ⟨rfl, o.t, v169_125 ?_⟩⟩
    have o2 := o.w (i := 8) (x := A 4 0)
    have X : ∀ b i, ¬ b = am_n h → am_m (am_w g (am_n h) 8 (A 4 0)) b i = am_m g b i := fun b i hb => by rw [am_m_w, if_neg (fun z => hb z.1)]
    obtain ⟨w1, w2, w3, w4, w5, w6, w7, w8, w9⟩ := gv
    have F9 : ∀ b, b < U3 → ¬ b = am_n h → am_t g b = am_t g9 b ∧ am_l g b = am_l g9 b ∧ ∀ i, am_m g b i = am_m g9 b i := fun b hb hn => ⟨(f.2.2.2.1 b (by omega)).1, (f.2.2.2.1 b (by omega)).2, fun i => f.2.2.2.2 b (by omega) hn (by omega) i⟩
    refine k _ (cpA A U1 U2 U3) o2.f ⟨o2.t, (o2.m 0).trans w1, (o2.m 1).trans w2, (o2.m 2).trans w3, (o2.m 3).trans w4, (o2.m 4).trans w5, (o2.m 5).trans w6, (o2.m 6).trans w7, (o2.m 7).trans w8, o2.m 8, (o2.m 9).trans w9, ⟨(o2.kt b0).trans c.caps.1, (o2.kl b0).trans c.caps.2.1, fun w w0 w1 => (o2.km b0).trans (c.caps.2.2 w w0 w1)⟩, (F9 U1 (by omega) (by omega)).1.trans t9p, (F9 U1 (by omega) (by omega)).2.1.trans l9p, fun i i0 i1 => ?_, (F9 U2 (by omega) (by omega)).1.trans t9v, (F9 U2 (by omega) (by omega)).2.1.trans l9v, fun i i0 i1 => ?_, ut, ul, fun i i0 i1 => ?_, (o2.kt b4).trans c.bt, (o2.kl b4).trans c.bl, fun i i0 i1 => ?_, c.br, c.pi, c.si, c.p1, ⟨by omega, by show ¬ U3 = -1; omega, fun i i0 i1 => ⟨by show ¬ U3 + 1 + i = -1; omega, by show ¬ U2 + 1 + i = -1; omega⟩, fun i i0 i1 => by show ¬ U1 + 1 + i = -1; omega, c.nn.2.2.2.2⟩, ⟨by show ¬ U1 = -1; omega, by show ¬ U2 = -1; omega, c.nr.2.2⟩, ⟨⟨?_, ?_, ?_, ?_, ?_, ?_⟩, fun i i0 i1 => ?_, fun i i0 i1 => ⟨?_, ?_⟩, fun i i0 i1 => ?_⟩, fun i j i0 i1 j0 j1 ij => by show ¬ U1 + 1 + i = U1 + 1 + j; omega, fun i j i0 i1 j0 j1 ij => by show ¬ U2 + 1 + i = U2 + 1 + j; omega, fun i j i0 i1 j0 j1 ij => by show ¬ U3 + 1 + i = U3 + 1 + j; omega, fun i j i0 i1 j0 j1 => by show ¬ U1 + 1 + i = U2 + 1 + j; omega, ⟨fun i i0 i1 => by show ¬ U1 + 1 + i = A 0 0; omega, fun i i0 i1 => by show ¬ U2 + 1 + i = A 0 0; omega⟩, fun q0 k0 k1 => ?_⟩ ?_ ?_ (fun Q z z0 z4 z8 => ⟨z _ (Int.le_refl _), z0, z U1 (by omega), z U2 (by omega), z U3 (by omega), z4, fun i i0 i1 => z (U1 + 1 + i) (by omega), fun i i0 i1 => ⟨z (U2 + 1 + i) (by omega), z (U3 + 1 + i) (by omega)⟩, z8⟩)
    · obtain ⟨z1, z2, z3, z4⟩ := r9p i i0 i1
      obtain ⟨y1, y2, y3⟩ := F9 (U1 + 1 + i) (by omega) (by omega)
      obtain ⟨p1, p2, p3, p4, p5, p6, p7, p8⟩ := c.p i i0 i1
      have Z : ∀ j, am_m (am_w g (am_n h) 8 (A 4 0)) (U1 + 1 + i) j = am_m h (A 5 i) j := fun j => (X _ _ (by omega)).trans ((y3 j).trans (z4 j))
      exact ⟨(X U1 i (by omega)).trans (((F9 U1 (by omega) (by omega)).2.2 i).trans z1), y1.trans z2, y2.trans z3, (Z 0).trans p4, (Z 1).trans p5, (Z 2).trans p6, (Z 3).trans p7, (Z 4).trans p8⟩
    · obtain ⟨z1, z2, z3, z4⟩ := r9v i i0 i1
      obtain ⟨y1, y2, y3⟩ := F9 (U2 + 1 + i) (by omega) (by omega)
      obtain ⟨p1, p2, p3, p4, p5⟩ := c.v i i0 i1
      have Z : ∀ j, am_m (am_w g (am_n h) 8 (A 4 0)) (U2 + 1 + i) j = am_m h (A 6 i) j := fun j => (X _ _ (by omega)).trans ((y3 j).trans (z4 j))
      exact ⟨(X U2 i (by omega)).trans (((F9 U2 (by omega) (by omega)).2.2 i).trans z1), y1.trans z2, y2.trans z3, (Z 0).trans p4, (Z 1).trans p5⟩
    · obtain ⟨z1, z2, z3, z4⟩ := rows i i0 (by omega)
      obtain ⟨p1, p2, p3, p4⟩ := c.l i i0 i1
      exact ⟨(X U3 i (by omega)).trans z1, z2, z3, fun j j0 j1 => (X (U3 + 1 + i) j (by omega)).trans ((z4 j).trans (p4 j j0 j1))⟩
    · obtain ⟨p1, p2, p3, p4⟩ := c.b i i0 i1
      exact ⟨(o2.km b4).trans p1, (o2.kt (b8 i i0 i1)).trans p2, (o2.kl (b8 i i0 i1)).trans p3, fun j j0 j1 => (o2.km (b8 i i0 i1)).trans (p4 j j0 j1)⟩
    · show am_n h < am_n g; omega
    · show A 0 0 < am_n g; omega
    · show U1 < am_n g; omega
    · show U2 < am_n g; omega
    · show U3 < am_n g; omega
    · show A 4 0 < am_n g; omega
    · show U1 + 1 + i < am_n g; omega
    · show U2 + 1 + i < am_n g; omega
    · show U3 + 1 + i < am_n g; omega
    · have := b8 i i0 i1
      show A 8 i < am_n g; omega
    · have := b8 q0 k0 k1
      exact ⟨fun i i0 i1 => by show ¬ U1 + 1 + i = A 8 q0; omega, fun i i0 i1 => by show ¬ U2 + 1 + i = A 8 q0; omega⟩
    · show am_n g ≤ _; omega
    · intro b hb
      rcases hb with e | ⟨i, i0, i1, e⟩ | ⟨i, i0, i1, e⟩
      · omega
      · have : b = U1 + 1 + i := e
        omega
      · rcases e with e | e
        · have : b = U2 + 1 + i := e
          omega
        · have : b = U3 + 1 + i := e
          omega
