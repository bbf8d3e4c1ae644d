/-! ===== the class carries out a test ===== -/
/-- the steps from pos on spell the operations, and a stop -/
def spc (h : AH) (q : Int) : Int → List Op → Prop
  | pos, [] => am_m h (q + 8) pos = 0 ∧ 0 ≤ pos ∧ pos < am_m h q 5
  | pos, o :: r => if o.1 = 11 then (am_m h (q + 8) pos = 1 ∧ am_m h (q + 9) pos = o.2.1) ∧ (am_m h (q + 8) (pos + 1) = 1 ∧ am_m h (q + 9) (pos + 1) = o.2.2) ∧ am_m h (q + 8) (pos + 2) = 11 ∧ 0 ≤ pos ∧ spc h q (pos + 3) r else (am_m h (q + 8) pos = o.1 ∧ am_m h (q + 9) pos = o.2.1) ∧ 0 ≤ pos ∧ spc h q (pos + 1) r
theorem spc_bd {h : AH} {q : Int} : ∀ {L : List Op} {pos : Int}, spc h q pos L → 0 ≤ pos ∧ pos < am_m h q 5
  | [], pos, x => ⟨x.2.1, x.2.2⟩
  | o :: r, pos, x => by
    unfold spc at x
    split at x
    · have := spc_bd x.2.2.2.2
      exact ⟨x.2.2.2.1, by omega⟩
    · have := spc_bd x.2.2
      exact ⟨x.2.1, by omega⟩
theorem spc_fr {h h1 : AH} {q : Int} (e8 : ∀ i, am_m h1 (q + 8) i = am_m h (q + 8) i) (e9 : ∀ i, am_m h1 (q + 9) i = am_m h (q + 9) i) (e5 : am_m h1 q 5 = am_m h q 5) : ∀ {L : List Op} {pos : Int}, spc h q pos L → spc h1 q pos L
  | [], pos, x => ⟨(e8 _).trans x.1, x.2.1, by rw [e5]; exact x.2.2⟩
  | o :: r, pos, x => by
    unfold spc at x ⊢
    split
    · rename_i hz
      rw [if_pos hz] at x
      exact ⟨⟨(e8 _).trans x.1.1, (e9 _).trans x.1.2⟩, ⟨(e8 _).trans x.2.1.1, (e9 _).trans x.2.1.2⟩, (e8 _).trans x.2.2.1, x.2.2.2.1, spc_fr e8 e9 e5 x.2.2.2.2⟩
    · rename_i hz
      rw [if_neg hz] at x
      exact ⟨⟨(e8 _).trans x.1.1, (e9 _).trans x.1.2⟩, x.2.1, spc_fr e8 e9 e5 x.2.2⟩
/-- the parish's stack -/
def SK (h : AH) (a : Int) (st : List Int) : Prop := am_m h a 14 = (st.length : Int) ∧ stk h (a + 8) st
def sk_push (h : AH) (a n v : Int) : AH := am_w (am_w h (a + 8) n v) a 14 (n + 1)
theorem SK.push {h : AH} {a v : Int} {st : List Int} (x : SK h a st) : SK (sk_push h a (st.length : Int) v) a (v :: st) := by
  unfold sk_push
  refine ⟨?_, ?_, ?_⟩
  · rw [am_m_w, if_pos ⟨rfl, rfl⟩]
    simp
  · rw [am_m_w, if_neg (by omega), am_m_w, if_pos ⟨rfl, rfl⟩]
  · exact stk_w (stk_w x.2 (Or.inr (Int.le_refl _))) (Or.inl (by omega))
theorem SK.pop {h : AH} {a v : Int} {st : List Int} (x : SK h a (v :: st)) : SK (am_w h a 14 (st.length : Int)) a st := by
  refine ⟨?_, stk_w x.2.2 (Or.inl (by omega))⟩
  rw [am_m_w, if_pos ⟨rfl, rfl⟩]
section
variable {d : Nat} {h : AH} {a q pos co x v w : Int} {pp ss : TT} {K : AK} {st : List Int} {y1 y3 y4 y5 : AV}
/-- the pieces of the class's own that carry a value onto the stack or from it -/
theorem h_push (c : CC h a q pp ss) (hs : SK h a st) (hl : (st.length : Int) < 400) (k : K 0 0 (sk_push h a (st.length : Int) v)) : am_call d 79 [(2, a), (0, v)] h K := c79 c hs.1 (by omega) hl k
theorem h_pop (c : CC h a q pp ss) (hs : SK h a (v :: st)) (hl : (st.length : Int) < 400) (k : K 0 v (am_w h a 14 (st.length : Int))) : am_call d 80 [(2, a)] h K := by
  have e1 : (((v :: st).length : Nat) : Int) = (st.length : Int) + 1 := by simp
  refine c80 (n := (st.length : Int) + 1) (v := 0) c (by rw [hs.1, e1]) (by omega) (by omega) ?_
  rw [show (st.length : Int) + 1 - 1 = (st.length : Int) by omega, hs.2.1]
  exact k
theorem CC.push (c : CC h a q pp ss) {n : Int} : CC (sk_push h a n v) a q pp ss := (c.wx (b := a + 8) (Or.inr (Or.inl rfl))).wx (b := a) (Or.inr (Or.inr ⟨rfl, Or.inl rfl⟩))
theorem CC.pop (c : CC h a q pp ss) {n : Int} : CC (am_w h a 14 n) a q pp ss := c.wx (b := a) (Or.inr (Or.inr ⟨rfl, Or.inl rfl⟩))
theorem h_single (c : CC h a q pp ss) (hs : SK h a st) (hq : am_m h q 5 ≤ 400) (e8 : am_m h (q + 8) pos = co) (e9 : am_m h (q + 9) pos = x) (p0 : 0 ≤ pos) (p1 : pos < am_m h q 5) (hl : (st.length : Int) ≤ pos) (c0 : 1 ≤ co) (c1 : co < 9)
    (hx : (co = 4 ∨ co = 5 ∨ co = 8) → 0 ≤ x ∧ x < pp 1 0) (hy : (co = 6 ∨ co = 7) → 0 ≤ x ∧ x < pp 2 0) (k : ∀ y3, WP (d + 3) 78 (7, [(2, a), y1, (0, pos + 1), y3, y4, y5], [], sk_push h a (st.length : Int) (sv pp ss co x), 0, 0) K) : WP (d + 3) 78 (7, [(2, a), y1, (0, pos), y3, y4, y5], [], h, 0, 0) K := by
  have s3 := c.P.t
  have s4 := c.Q.t
  refine v78_7 ⟨fun z => absurd z (by omega), fun _ => ?_⟩
  simp only [c.P.t, c.P.f5, c.P.f3, c.P.t1, c.P.l1, c.P.f4, c.P.t2, c.P.l2, c.P.f8, c.P.t3, c.P.l3, c.P.f9, c.P.t4, c.P.l4, c.P.f10, c.P.t5, c.P.l5, c.P.f11, c.P.t6, c.P.l6, c.P.f12, c.P.t7, c.P.l7, c.P.f13, c.P.t8, c.P.l8, c.Q.t, c.Q.f6, c.Q.t1, c.Q.l1, c.Q.f7, c.Q.t2, c.Q.l2, c.Q.f8, c.Q.t3, c.Q.l3, c.Q.f9, c.Q.t4, c.Q.l4, c.Q.f10, c.Q.t5, c.Q.l5, c.Q.f11, c.Q.t6, c.Q.l6, c.Q.f12, c.Q.t7, c.Q.l7, c.Q.f13, c.Q.t8, c.Q.l8, c.Q.f14, c.Q.t9, c.Q.l9, c.nw, c.np, c.nv, c.nb, c.yr, c.bud, c.pot, c.pd, e8, e9, true_and]
  refine ⟨fun _ => ⟨⟨p0, by omega⟩, fun z => absurd z (by omega), fun _ => ⟨fun z => absurd z (by omega), fun _ => ⟨fun z => absurd z (by omega), fun _ => ⟨fun _ => ⟨⟨p0, by omega⟩, c81 c hx hy ?_⟩, fun z => absurd (show co < 10 by omega) z⟩⟩⟩⟩, fun z => absurd p1 z⟩
  refine ⟨s3, h_push c hs (by omega) ?_⟩
  have := k (0, co)
  rw [← w32_id (x := pos + 1) (by omega) (by omega)] at this
  exact this
theorem h_un (c : CC h a q pp ss) (hs : SK h a (v :: st)) (hq : am_m h q 5 ≤ 400) (e8 : am_m h (q + 8) pos = co) (p0 : 0 ≤ pos) (p1 : pos < am_m h q 5) (hl : (st.length : Int) < pos) (c0 : co = 9 ∨ co = 10)
    (k : ∀ y3, WP (d + 3) 78 (7, [(2, a), y1, (0, pos + 1), y3, y4, y5], [], sk_push (am_w h a 14 (st.length : Int)) a (st.length : Int) (if co = 9 then w32 (-v) else w32 (1 - v)), 0, 0) K) : WP (d + 3) 78 (7, [(2, a), y1, (0, pos), y3, y4, y5], [], h, 0, 0) K := by
  have s3 := c.P.t
  have s4 := c.Q.t
  have s3' : am_t (am_w h a 14 (st.length : Int)) a = 3 := s3
  refine v78_7 ⟨fun z => absurd z (by omega), fun _ => ?_⟩
  simp only [c.P.t, c.P.f5, c.P.f3, c.P.t1, c.P.l1, c.P.f4, c.P.t2, c.P.l2, c.P.f8, c.P.t3, c.P.l3, c.P.f9, c.P.t4, c.P.l4, c.P.f10, c.P.t5, c.P.l5, c.P.f11, c.P.t6, c.P.l6, c.P.f12, c.P.t7, c.P.l7, c.P.f13, c.P.t8, c.P.l8, c.Q.t, c.Q.f6, c.Q.t1, c.Q.l1, c.Q.f7, c.Q.t2, c.Q.l2, c.Q.f8, c.Q.t3, c.Q.l3, c.Q.f9, c.Q.t4, c.Q.l4, c.Q.f10, c.Q.t5, c.Q.l5, c.Q.f11, c.Q.t6, c.Q.l6, c.Q.f12, c.Q.t7, c.Q.l7, c.Q.f13, c.Q.t8, c.Q.l8, c.Q.f14, c.Q.t9, c.Q.l9, c.nw, c.np, c.nv, c.nb, c.yr, c.bud, c.pot, c.pd, e8, true_and]
  refine ⟨fun _ => ⟨⟨p0, by omega⟩, fun z => absurd z (by omega), fun _ => ⟨fun z => h_pop c hs (by omega) ⟨s3', h_push c.pop hs.pop (by omega) ?_⟩, fun z => ⟨fun z2 => h_pop c hs (by omega) ⟨s3', h_push c.pop hs.pop (by omega) ?_⟩, fun z2 => absurd c0 (by omega)⟩⟩⟩, fun z => absurd p1 z⟩
  · have := k (0, co)
    rw [← w32_id (x := pos + 1) (by omega) (by omega), if_neg (by omega)] at this
    exact this
  · have := k (0, co)
    rw [← w32_id (x := pos + 1) (by omega) (by omega), if_pos z2] at this
    exact this
theorem h_bin (c : CC h a q pp ss) (hs : SK h a (v :: w :: st)) (hq : am_m h q 5 ≤ 400) (e8 : am_m h (q + 8) pos = co) (p0 : 0 ≤ pos) (p1 : pos < am_m h q 5) (hl : (st.length : Int) + 1 < pos) (c0 : 11 ≤ co) (h11 : co = 11 → (0 ≤ w ∧ w < 12) ∧ 0 ≤ v ∧ v < pp 1 0)
    (k : ∀ y3 y4 y5, WP (d + 3) 78 (7, [(2, a), y1, (0, pos + 1), y3, y4, y5], [], sk_push (am_w (am_w h a 14 ((w :: st).length : Int)) a 14 (st.length : Int)) a (st.length : Int) (if co < 18 then (if co = 11 then ss 9 (12 * w + v) else rv co w v) else cv co w v), 0, 0) K) : WP (d + 3) 78 (7, [(2, a), y1, (0, pos), y3, y4, y5], [], h, 0, 0) K := by
  have s3 := c.P.t
  have s4 := c.Q.t
  have el : (((w :: st).length : Nat) : Int) = (st.length : Int) + 1 := by simp
  have c2 := c.pop (n := ((w :: st).length : Int))
  have k2 := hs.pop
  have c3 := c2.pop (n := (st.length : Int))
  have k3 := k2.pop
  refine v78_7 ⟨fun z => absurd z (by omega), fun _ => ?_⟩
  simp only [c.P.t, c.P.f5, c.P.f3, c.P.t1, c.P.l1, c.P.f4, c.P.t2, c.P.l2, c.P.f8, c.P.t3, c.P.l3, c.P.f9, c.P.t4, c.P.l4, c.P.f10, c.P.t5, c.P.l5, c.P.f11, c.P.t6, c.P.l6, c.P.f12, c.P.t7, c.P.l7, c.P.f13, c.P.t8, c.P.l8, c.Q.t, c.Q.f6, c.Q.t1, c.Q.l1, c.Q.f7, c.Q.t2, c.Q.l2, c.Q.f8, c.Q.t3, c.Q.l3, c.Q.f9, c.Q.t4, c.Q.l4, c.Q.f10, c.Q.t5, c.Q.l5, c.Q.f11, c.Q.t6, c.Q.l6, c.Q.f12, c.Q.t7, c.Q.l7, c.Q.f13, c.Q.t8, c.Q.l8, c.Q.f14, c.Q.t9, c.Q.l9, c.nw, c.np, c.nv, c.nb, c.yr, c.bud, c.pot, c.pd, e8, true_and]
  refine ⟨fun _ => ⟨⟨p0, by omega⟩, fun z => absurd z (by omega), fun _ => ⟨fun z => absurd z (by omega), fun _ => ⟨fun z => absurd z (by omega), fun _ => ⟨fun z => absurd z (by omega), fun _ => h_pop c hs (by omega) ⟨s3, h_pop c2 k2 (by omega) ⟨fun z => ⟨s3, c82 c3 h11 ⟨s3, h_push c3 k3 (by omega) ?_⟩⟩, fun z => c83 ⟨s3, h_push c3 k3 (by omega) ?_⟩⟩⟩⟩⟩⟩⟩, fun z => absurd p1 z⟩
  · have := k (0, co) (0, v) (0, w)
    rw [← w32_id (x := pos + 1) (by omega) (by omega), if_pos z] at this
    exact this
  · have := k (0, co) (0, v) (0, w)
    rw [← w32_id (x := pos + 1) (by omega) (by omega), if_neg z] at this
    exact this
end
/-- only the stack of the parish at a has changed -/
def Fs (a : Int) (h h' : AH) : Prop := am_n h' = am_n h ∧ am_sl h' = am_sl h ∧ (∀ j, am_sx h' j = am_sx h j) ∧ (∀ b, am_t h' b = am_t h b ∧ am_l h' b = am_l h b) ∧ ∀ b i, b ≠ a + 8 → ¬ (b = a ∧ i = 14) → am_m h' b i = am_m h b i
theorem Fs.rf {a : Int} {h : AH} : Fs a h h := ⟨rfl, rfl, fun _ => rfl, fun _ => ⟨rfl, rfl⟩, fun _ _ _ _ => rfl⟩
theorem Fs.tr {a : Int} {h h1 h2 : AH} (x : Fs a h h1) (y : Fs a h1 h2) : Fs a h h2 := ⟨y.1.trans x.1, y.2.1.trans x.2.1, fun j => (y.2.2.1 j).trans (x.2.2.1 j), fun b => ⟨(y.2.2.2.1 b).1.trans (x.2.2.2.1 b).1, (y.2.2.2.1 b).2.trans (x.2.2.2.1 b).2⟩, fun b i z1 z2 => (y.2.2.2.2 b i z1 z2).trans (x.2.2.2.2 b i z1 z2)⟩
theorem Fs.w14 {a v : Int} {h h1 : AH} (x : Fs a h h1) : Fs a h (am_w h1 a 14 v) := ⟨x.1, x.2.1, x.2.2.1, x.2.2.2.1, fun b i z1 z2 => by rw [am_m_w, if_neg z2]; exact x.2.2.2.2 b i z1 z2⟩
theorem Fs.w8 {a v i : Int} {h h1 : AH} (x : Fs a h h1) : Fs a h (am_w h1 (a + 8) i v) := ⟨x.1, x.2.1, x.2.2.1, x.2.2.2.1, fun b i z1 z2 => by rw [am_m_w, if_neg (fun z => z1 z.1)]; exact x.2.2.2.2 b i z1 z2⟩
theorem Fs.fr {a : Int} {h h1 : AH} (x : Fs a h h1) : Fr a 9 h h1 := ⟨Int.le_of_eq x.1.symm, x.2.1, x.2.2.1, fun b _ => x.2.2.2.1 b, fun b _ z2 i => x.2.2.2.2 b i (by omega) (fun z => by omega)⟩
theorem Fs.push {h h1 : AH} {a n v : Int} (f : Fs a h h1) : Fs a h (sk_push h1 a n v) := f.w8.w14
theorem spc_w {h : AH} {a q i v b : Int} {L : List Op} {pos : Int} (x : spc h q pos L) (hb : (a ≤ b ∧ b < a + 9)) (ap : q + 10 ≤ a ∨ a + 9 ≤ q) : spc (am_w h b i v) q pos L :=
  spc_fr (fun j => by rw [am_m_w, if_neg (by omega)]) (fun j => by rw [am_m_w, if_neg (by omega)]) (by rw [am_m_w, if_neg (by omega)]) x
theorem spc_push {h : AH} {a q n v : Int} {L : List Op} {pos : Int} (x : spc h q pos L) (ap : q + 10 ≤ a ∨ a + 9 ≤ q) : spc (sk_push h a n v) q pos L := spc_w (a := a) (spc_w (a := a) x (by omega) ap) (by omega) ap
section
variable {d : Nat} {h0 : AH} {a q : Int} {pp ss : TT} {K : AK} {y1 : AV}
theorem h_run : ∀ (L : List Op) {h : AH} {pos : Int} {st : List Int} {t : List Bool} {y3 y4 y5 : AV}, CC h a q pp ss → SK h a st → am_m h q 5 ≤ 400 → spc h q pos L → (st.length : Int) ≤ pos → tst pp L t [true] → kd t st → Fs a h0 h →
    (∀ h2 v, evs pp ss L st = [v] → Fs a h0 h2 → CC h2 a q pp ss → K 0 (if v = 0 then 0 else 1) h2) → WP (d + 3) 78 (7, [(2, a), y1, (0, pos), y3, y4, y5], [], h, 0, 0) K
  | [], h, pos, st, t, y3, y4, y5, c, hs, hq, hp, hl, ht, hk, hf, kk => by
    have ht : t = [true] := ht
    subst ht
    obtain ⟨e8, p0, p1⟩ := hp
    have s3 := c.P.t
    have s4 := c.Q.t
    match st, hk with
    | [], hk => exact hk.elim
    | w1 :: w2 :: s, hk => exact hk.2.elim
    | [v], hk =>
      refine v78_7 ⟨fun z => absurd z (by omega), fun _ => ?_⟩
      simp only [c.P.t, c.P.f5, c.P.f3, c.P.t1, c.P.l1, c.P.f4, c.P.t2, c.P.l2, c.P.f8, c.P.t3, c.P.l3, c.P.f9, c.P.t4, c.P.l4, c.P.f10, c.P.t5, c.P.l5, c.P.f11, c.P.t6, c.P.l6, c.P.f12, c.P.t7, c.P.l7, c.P.f13, c.P.t8, c.P.l8, c.Q.t, c.Q.f6, c.Q.t1, c.Q.l1, c.Q.f7, c.Q.t2, c.Q.l2, c.Q.f8, c.Q.t3, c.Q.l3, c.Q.f9, c.Q.t4, c.Q.l4, c.Q.f10, c.Q.t5, c.Q.l5, c.Q.f11, c.Q.t6, c.Q.l6, c.Q.f12, c.Q.t7, c.Q.l7, c.Q.f13, c.Q.t8, c.Q.l8, c.Q.f14, c.Q.t9, c.Q.l9, c.nw, c.np, c.nv, c.nb, c.yr, c.bud, c.pot, c.pd, e8, true_and]
      refine ⟨fun _ => ⟨⟨p0, by omega⟩, fun _ => h_pop c hs (by decide) ?_, fun z => absurd trivial z⟩, fun z => absurd p1 z⟩
      have kq := kk _ v rfl (hf.w14 (v := (([] : List Int).length : Int))) c.pop
      refine ⟨fun z => ⟨Or.inl trivial, ?_⟩, fun z => ⟨Or.inr trivial, ?_⟩⟩
      · rw [if_pos z] at kq
        exact kq
      · rw [if_neg z] at kq
        exact kq
  | o :: r, h, pos, st, t, y3, y4, y5, c, hs, hq, hp, hl, ht, hk, hf, kk => by
    obtain ⟨t1, ht1, ht2⟩ := ht
    have hk1 := kd_evo (ss := ss) c.S ht1 hk
    have nv := c.I.nv
    have hb := spc_bd hp
    unfold spc at hp
    have push5 : ∀ {h : AH} {n v : Int}, CC h a q pp ss → am_m (sk_push h a n v) q 5 = am_m h q 5 := fun cz => by
      have := cz.ap
      unfold sk_push
      rw [am_m_w, if_neg (by omega), am_m_w, if_neg (by omega)]
    have pop5 : ∀ {h : AH} {n : Int}, CC h a q pp ss → am_m (am_w h a 14 n) q 5 = am_m h q 5 := fun cz => by
      have := cz.ap
      rw [am_m_w, if_neg (by omega)]
    have sing : ∀ x, (1 ≤ o.1 ∧ o.1 < 9) → o.2.1 = x → ((o.1 = 4 ∨ o.1 = 5 ∨ o.1 = 8) → 0 ≤ x ∧ x < pp 1 0) → ((o.1 = 6 ∨ o.1 = 7) → 0 ≤ x ∧ x < pp 2 0) → WP (d + 3) 78 (7, [(2, a), y1, (0, pos), y3, y4, y5], [], h, 0, 0) K := by
      intro x hc ex hx hy
      rw [if_neg (by omega)] at hp
      obtain ⟨⟨e8, e9⟩, p0, hp⟩ := hp
      rw [ex] at e9
      rw [evo_s hc.2, ex] at hk1
      refine h_single c hs hq e8 e9 p0 hb.2 hl hc.1 hc.2 hx hy (fun y3 => ?_)
      refine h_run r c.push hs.push (by rw [push5 c]; exact hq) (spc_push hp c.ap) (by simp; omega) ht2 hk1 hf.push (fun h2 v ev2 => kk h2 v ?_)
      show evs pp ss r (evo pp ss o st) = [v]
      rw [evo_s hc.2, ex]
      exact ev2
    have binr : (12 ≤ o.1) → ∀ t0 b1 b2, t = b1 :: b2 :: t0 → WP (d + 3) 78 (7, [(2, a), y1, (0, pos), y3, y4, y5], [], h, 0, 0) K := by
      intro hc t0 b1 b2 et
      subst et
      obtain ⟨v, s, rfl, g1, g2⟩ := kd_inv hk
      obtain ⟨w, s, rfl, g3, g4⟩ := kd_inv g2
      rw [if_neg (by omega)] at hp
      obtain ⟨⟨e8, e9⟩, p0, hp⟩ := hp
      rw [evo_b hc] at hk1
      have el : (((v :: w :: s).length : Nat) : Int) = (s.length : Int) + 2 := by simp; omega
      refine h_bin c hs hq e8 p0 hb.2 (by omega) (by omega) (fun z => absurd z (by omega)) (fun y3 y4 y5 => ?_)
      rw [if_neg (show ¬ o.1 = 11 by omega)]
      refine h_run r c.pop.pop.push hs.pop.pop.push (by rw [push5 c.pop.pop, pop5 c.pop, pop5 c]; exact hq) (spc_push (spc_w (a := a) (spc_w (a := a) hp (by omega) c.ap) (by omega) c.ap) c.ap) (by simp; omega) ht2 hk1 hf.w14.w14.push (fun h2 v' ev2 => kk h2 v' ?_)
      show evs pp ss r (evo pp ss o (v :: w :: s)) = [v']
      rw [evo_b hc]
      exact ev2
    have unr : (o.1 = 9 ∨ o.1 = 10) → ∀ t0 b1, t = b1 :: t0 → WP (d + 3) 78 (7, [(2, a), y1, (0, pos), y3, y4, y5], [], h, 0, 0) K := by
      intro hc t0 b1 et
      subst et
      obtain ⟨v, s, rfl, g1, g2⟩ := kd_inv hk
      rw [if_neg (by omega)] at hp
      obtain ⟨⟨e8, e9⟩, p0, hp⟩ := hp
      have eu : evo pp ss o (v :: s) = (if o.1 = 9 then w32 (-v) else w32 (1 - v)) :: s := by
        rcases hc with hc | hc
        · rw [evo_9 hc, if_pos hc]
        · rw [evo_10 hc, if_neg (by omega)]
      rw [eu] at hk1
      have el : (((v :: s).length : Nat) : Int) = (s.length : Int) + 1 := by simp
      refine h_un c hs hq e8 p0 hb.2 (by omega) hc (fun y3 => ?_)
      refine h_run r c.pop.push hs.pop.push (by rw [push5 c.pop, pop5 c]; exact hq) (spc_push (spc_w (a := a) hp (by omega) c.ap) c.ap) (by simp; omega) ht2 hk1 hf.w14.push (fun h2 v' ev2 => kk h2 v' ?_)
      show evs pp ss r (evo pp ss o (v :: s)) = [v']
      rw [eu]
      exact ev2
    rcases ht1 with ⟨e, rfl⟩ | ⟨e, rfl⟩ | ⟨e, rfl⟩ | ⟨e, hr, rfl⟩ | ⟨e, hr, rfl⟩ | ⟨e, hr, rfl⟩ | ⟨e, hr1, hr2, rfl⟩ | ⟨e, t0, rfl, rfl⟩ | ⟨e, t0, rfl, rfl⟩ | ⟨e, t0, rfl, rfl⟩ | ⟨e, t0, rfl, rfl⟩ | ⟨e, t0, rfl, rfl⟩
    · exact sing _ (by omega) rfl (fun z => absurd z (by omega)) (fun z => absurd z (by omega))
    · exact sing _ (by omega) rfl (fun z => absurd z (by omega)) (fun z => absurd z (by omega))
    · exact sing _ (by omega) rfl (fun z => absurd z (by omega)) (fun z => absurd z (by omega))
    · exact sing _ (by omega) rfl (fun _ => hr) (fun z => absurd z (by omega))
    · exact sing _ (by omega) rfl (fun z => absurd z (by omega)) (fun _ => hr)
    · exact sing _ (by omega) rfl (fun _ => hr) (fun z => absurd z (by omega))
    · rw [if_pos e] at hp
      obtain ⟨⟨e8, e9⟩, ⟨f8, f9⟩, g8, p0, hp⟩ := hp
      have hb2 := spc_bd hp
      rw [evo_11 e] at hk1
      have ap := c.ap
      refine h_single (co := 1) (x := o.2.1) c hs hq e8 e9 p0 hb.2 hl (by omega) (by omega) (fun z => absurd z (by omega)) (fun z => absurd z (by omega)) (fun y3 => ?_)
      have c1 := c.push (v := sv pp ss 1 o.2.1) (n := (st.length : Int))
      have k1 := hs.push (v := sv pp ss 1 o.2.1)
      have q1 : am_m (sk_push h a (st.length : Int) (sv pp ss 1 o.2.1)) q 5 = am_m h q 5 := push5 c
      have r8 : ∀ i, am_m (sk_push h a (st.length : Int) (sv pp ss 1 o.2.1)) (q + 8) i = am_m h (q + 8) i := fun i => by
        unfold sk_push
        rw [am_m_w, if_neg (by omega), am_m_w, if_neg (by omega)]
      have r9 : ∀ i, am_m (sk_push h a (st.length : Int) (sv pp ss 1 o.2.1)) (q + 9) i = am_m h (q + 9) i := fun i => by
        unfold sk_push
        rw [am_m_w, if_neg (by omega), am_m_w, if_neg (by omega)]
      generalize hg : sk_push h a (st.length : Int) (sv pp ss 1 o.2.1) = h1 at c1 k1 q1 r8 r9 ⊢
      have f1 : Fs a h0 h1 := by rw [← hg]; exact hf.push
      have hp1 : spc h1 q (pos + 3) r := spc_fr r8 r9 q1 hp
      refine h_single (co := 1) (x := o.2.2) c1 k1 (by omega) (by rw [r8]; exact f8) (by rw [r9]; exact f9) (by omega) (by omega) (by simp; omega) (by omega) (by omega) (fun z => absurd z (by omega)) (fun z => absurd z (by omega)) (fun y3 => ?_)
      have c2 := c1.push (v := sv pp ss 1 o.2.2) (n := ((sv pp ss 1 o.2.1 :: st).length : Int))
      have k2 := k1.push (v := sv pp ss 1 o.2.2)
      have q2 : am_m (sk_push h1 a ((sv pp ss 1 o.2.1 :: st).length : Int) (sv pp ss 1 o.2.2)) q 5 = am_m h1 q 5 := push5 c1
      have s8 : ∀ i, am_m (sk_push h1 a ((sv pp ss 1 o.2.1 :: st).length : Int) (sv pp ss 1 o.2.2)) (q + 8) i = am_m h1 (q + 8) i := fun i => by
        unfold sk_push
        rw [am_m_w, if_neg (by omega), am_m_w, if_neg (by omega)]
      have s9 : ∀ i, am_m (sk_push h1 a ((sv pp ss 1 o.2.1 :: st).length : Int) (sv pp ss 1 o.2.2)) (q + 9) i = am_m h1 (q + 9) i := fun i => by
        unfold sk_push
        rw [am_m_w, if_neg (by omega), am_m_w, if_neg (by omega)]
      generalize hg2 : sk_push h1 a ((sv pp ss 1 o.2.1 :: st).length : Int) (sv pp ss 1 o.2.2) = h2 at c2 k2 q2 s8 s9 ⊢
      have f2 : Fs a h0 h2 := by rw [← hg2]; exact f1.push
      have hp2 : spc h2 q (pos + 3) r := spc_fr s8 s9 q2 hp1
      have ex : sv pp ss 1 o.2.1 = o.2.1 := rfl
      have ey : sv pp ss 1 o.2.2 = o.2.2 := rfl
      rw [ex, ey] at k2
      rw [show pos + 1 + 1 = pos + 2 by omega]
      refine h_bin (co := 11) c2 k2 (by omega) (by rw [s8, r8]; exact g8) (by omega) (by omega) (by omega) (by omega) (fun _ => ⟨⟨hr1.1, by omega⟩, hr2⟩) (fun y3 y4 y5 => ?_)
      rw [if_pos (show (11 : Int) < 18 by decide), if_pos (show (11 : Int) = 11 from rfl), show pos + 2 + 1 = pos + 3 by omega]
      refine h_run r c2.pop.pop.push k2.pop.pop.push (by rw [push5 c2.pop.pop, pop5 c2.pop, pop5 c2]; omega) (spc_push (spc_w (a := a) (spc_w (a := a) hp2 (by omega) ap) (by omega) ap) ap) (by simp; omega) ht2 hk1 f2.w14.w14.push (fun h2 v' ev2 => kk h2 v' ?_)
      show evs pp ss r (evo pp ss o st) = [v']
      rw [evo_11 e]
      exact ev2
    · exact unr (Or.inl e) _ _ rfl
    · exact unr (Or.inr e) _ _ rfl
    · exact binr (by omega) _ _ _ rfl
    · exact binr (by omega) _ _ _ rfl
    · exact binr (by omega) _ _ _ rfl
end
/-- the tests of the plan at q, as operations -/
def CT (h : AH) (q : Int) (pp : TT) (tt : Int → List Op) : Prop := am_m h q 5 ≤ 400 ∧ ∀ i, 0 ≤ i → i < pp 3 0 → tst pp (tt i) [] [true] ∧ spc h q (am_m h (q + 7) i) (tt i)
theorem CT.fr {h h1 : AH} {q lo n : Int} {pp : TT} {tt : Int → List Op} (x : CT h q pp tt) (x1 : P4 h q) (fr : Fr lo n h h1) (ap : q + 10 ≤ lo ∨ lo + n ≤ q) : CT h1 q pp tt := by
  have hp := x1.p
  have hb := x1.b
  have e : ∀ j, 0 ≤ j → j < 10 → ∀ i, am_m h1 (q + j) i = am_m h (q + j) i := fun j y1 y2 i => fr.2.2.2.2 (q + j) (by omega) (by omega) i
  have e0 : ∀ i, am_m h1 q i = am_m h q i := fun i => fr.2.2.2.2 q (by omega) (by omega) i
  refine ⟨by rw [e0]; exact x.1, fun i z1 z2 => ⟨(x.2 i z1 z2).1, ?_⟩⟩
  rw [e 7 (by omega) (by omega)]
  exact spc_fr (e 8 (by omega) (by omega)) (e 9 (by omega) (by omega)) (e0 5) (x.2 i z1 z2).2
theorem c78 {d : Nat} {h : AH} {a q i : Int} {pp ss : TT} {tt : Int → List Op} {K : AK} (c : CC h a q pp ss) (ct : CT h q pp tt) (h0 : 0 ≤ i) (h1 : i < pp 3 0) (k : ∀ h2, Fs a h h2 → CC h2 a q pp ss → K 0 (tv pp ss (tt i)) h2) : am_call (d + 3) 78 [(2, a), (0, am_m h (q + 7) i)] h K := by
  refine v78 ⟨c.P.t, ?_⟩
  obtain ⟨g1, g2⟩ := ct.2 i h0 h1
  have ap := c.ap
  have hb := spc_bd g2
  have c1 := c.pop (n := 0)
  refine h_run (h0 := h) (tt i) (st := []) (t := []) c1 ⟨?_, trivial⟩ ?_ (spc_w (a := a) g2 (by omega) ap) (by simp; omega) g1 trivial Fs.rf.w14 (fun h2 v ev2 f2 c2 => ?_)
  · rw [am_m_w, if_pos ⟨rfl, rfl⟩]
    rfl
  · rw [am_m_w, if_neg (by omega)]
    exact ct.1
  · have kq := k h2 f2 c2
    obtain ⟨z1, z2⟩ := tv_one (ss := ss) c.S g1
    rw [z1] at ev2
    cases ev2
    rcases z2 with z2 | z2
    · rw [if_pos z2]
      rw [z2] at kq
      exact kq
    · rw [if_neg (by omega)]
      rw [z2] at kq
      exact kq
/-- banned now -/
theorem c77 {d : Nat} {h : AH} {a q p : Int} {pp ss : TT} {tt : Int → List Op} {K : AK} (c : CC h a q pp ss) (ct : CT h q pp tt) (k : ∀ h2, Fs a h h2 → CC h2 a q pp ss → K 0 (if s_bn pp ss tt p = true then 1 else 0) h2) : am_call (d + 4) 77 [(2, a), (0, p)] h K := by
  refine v77 ?_
  have nb := c.I.nb
  have c0 := c
  have gen : ∀ j : Nat, ∀ i : Nat, i + j = (pp 3 0).toNat → ∀ h1, Fs a h h1 → CC h1 a q pp ss → tbn pp ss tt p i = false → WP (d + 4) 77 (2, [(2, a), (0, p), (0, (i : Int))], [], h1, 0, 0) K := by
    intro j
    induction j with
    | zero =>
      intro i hij h1 f1 c hb
      refine v77_2 ?_
      simp only [c.P.t, c.P.f5, c.P.f3, c.P.t1, c.P.l1, c.P.f4, c.P.t2, c.P.l2, c.P.f8, c.P.t3, c.P.l3, c.P.f9, c.P.t4, c.P.l4, c.P.f10, c.P.t5, c.P.l5, c.P.f11, c.P.t6, c.P.l6, c.P.f12, c.P.t7, c.P.l7, c.P.f13, c.P.t8, c.P.l8, c.Q.t, c.Q.f6, c.Q.t1, c.Q.l1, c.Q.f7, c.Q.t2, c.Q.l2, c.Q.f8, c.Q.t3, c.Q.l3, c.Q.f9, c.Q.t4, c.Q.l4, c.Q.f10, c.Q.t5, c.Q.l5, c.Q.f11, c.Q.t6, c.Q.l6, c.Q.f12, c.Q.t7, c.Q.l7, c.Q.f13, c.Q.t8, c.Q.l8, c.Q.f14, c.Q.t9, c.Q.l9, c.nw, c.np, c.nv, c.nb, c.yr, c.bud, c.pot, c.pd, true_and]
      refine ⟨fun z => absurd z (by omega), fun _ => ⟨Or.inl trivial, ?_⟩⟩
      have kq := k h1 f1 c
      unfold s_bn at kq
      rw [show (pp 3 0).toNat = i by omega, hb] at kq
      exact kq
    | succ j ih =>
      intro i hij h1 f1 c1 hb
      have c := c1
      have e1 := c.banned (i := (i : Int)) (by omega) (by omega)
      have tail : ∀ h2, Fs a h h2 → CC h2 a q pp ss → tbn pp ss tt p (i + 1) = false → WP (d + 4) 77 (2, [(2, a), (0, p), (0, w32 ((i : Int) + 1))], [], h2, 0, 0) K := fun h2 f2 c2 hb2 => by
        rw [w32_nat (by omega)]
        exact ih (i + 1) (by omega) h2 f2 c2 hb2
      have stop : ∀ h2, Fs a h h2 → CC h2 a q pp ss → tbn pp ss tt p (i + 1) = true → K 0 1 h2 := fun h2 f2 c2 hb2 => by
        have kq := k h2 f2 c2
        have mono : ∀ m : Nat, i + 1 ≤ m → tbn pp ss tt p m = true := by
          intro m
          induction m with
          | zero => intro hm; omega
          | succ m ihm =>
            intro hm
            by_cases hmi : m = i
            · subst hmi; exact hb2
            · show (tbn pp ss tt p m || _) = true
              rw [ihm (by omega)]
              rfl
        unfold s_bn at kq
        rw [mono _ (by omega)] at kq
        exact kq
      refine v77_2 ?_
      simp only [c.P.t, c.P.f5, c.P.f3, c.P.t1, c.P.l1, c.P.f4, c.P.t2, c.P.l2, c.P.f8, c.P.t3, c.P.l3, c.P.f9, c.P.t4, c.P.l4, c.P.f10, c.P.t5, c.P.l5, c.P.f11, c.P.t6, c.P.l6, c.P.f12, c.P.t7, c.P.l7, c.P.f13, c.P.t8, c.P.l8, c.Q.t, c.Q.f6, c.Q.t1, c.Q.l1, c.Q.f7, c.Q.t2, c.Q.l2, c.Q.f8, c.Q.t3, c.Q.l3, c.Q.f9, c.Q.t4, c.Q.l4, c.Q.f10, c.Q.t5, c.Q.l5, c.Q.f11, c.Q.t6, c.Q.l6, c.Q.f12, c.Q.t7, c.Q.l7, c.Q.f13, c.Q.t8, c.Q.l8, c.Q.f14, c.Q.t9, c.Q.l9, c.nw, c.np, c.nv, c.nb, c.yr, c.bud, c.pot, c.pd, e1, true_and]
      refine ⟨fun _ => ⟨⟨by omega, by omega⟩, fun z => ⟨⟨by omega, by omega⟩, c78 c (ct.fr c0.Q f1.fr c0.ap) (by omega) (by omega) (fun h2 f2 c2 => ?_)⟩, fun z => tail h1 f1 c1 ?_⟩, fun z => absurd (show (i : Int) < pp 3 0 by omega) z⟩
      · have z2 := (tv_one (ss := ss) c.S (ct.2 (i : Int) (by omega) (by omega)).1).2
        refine ⟨fun z3 => tail h2 (f1.tr f2) c2 ?_, fun z3 => ⟨Or.inr trivial, stop h2 (f1.tr f2) c2 ?_⟩⟩
        · show (tbn pp ss tt p i || (decide (pp 7 (i : Int) = p) && decide (tv pp ss (tt (i : Int)) = 1))) = false
          rw [hb, z3]
          simp
        · show (tbn pp ss tt p i || (decide (pp 7 (i : Int) = p) && decide (tv pp ss (tt (i : Int)) = 1))) = true
          rw [hb, show tv pp ss (tt (i : Int)) = 1 by omega, z]
          simp
      · show (tbn pp ss tt p i || (decide (pp 7 (i : Int) = p) && decide (tv pp ss (tt (i : Int)) = 1))) = false
        rw [hb]
        simp [z]
  exact gen _ 0 (Nat.zero_add _) h Fs.rf c rfl
