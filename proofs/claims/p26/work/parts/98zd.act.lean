/-! ===== something by hand, done to both ===== -/
theorem and31 (x : Int) : 0 ≤ am_and x 2147483647 := by
  unfold am_and
  generalize Int32.ofInt x = y
  have e : (y &&& Int32.ofInt 2147483647) = (y.toUInt32 &&& 2147483647).toInt32 := rfl
  have h1 : (y.toUInt32 &&& 2147483647).toNat ≤ 2147483647 := by
    rw [UInt32.toNat_and]
    exact Nat.and_le_right
  have h2 : ((y.toUInt32 &&& 2147483647).toInt32).toInt = (y.toUInt32 &&& 2147483647).toBitVec.toInt := rfl
  have h3 : (y.toUInt32 &&& 2147483647).toBitVec.toNat = (y.toUInt32 &&& 2147483647).toNat := rfl
  have h7 : (2 : Nat) ^ 32 = 4294967296 := by decide
  rw [e, h2, BitVec.toInt_eq_toNat_cond, h3, h7, if_pos (by omega)]
  omega
theorem s173 {d : Nat} {x n : Int} {h : AH} {K : AK} (hn : 0 < n) (k : ∀ r, 0 ≤ r → r < n → K 0 r h) : am_call d 173 [(0, x), (0, n)] h K := by
  have a := and31 x
  refine v173 ⟨by omega, k _ (Int.tmod_nonneg _ a) ?_⟩
  have := Int.tmod_lt_of_pos (am_and x 2147483647) hn
  omega
theorem su_same {ss : TT} {k : Nat} {i x : Int} (h : ss k i = x) : su ss k i x = ss := by
  funext k' i'
  unfold su
  by_cases e : k' = k ∧ i' = i
  · rw [if_pos e, e.1, e.2, h]
  · rw [if_neg e]
/-- what acts keep -/
def AK2 (pp ss s2 : TT) : Prop := (s2 0 0 = ss 0 0) ∧ (s2 3 0 = ss 3 0) ∧ (∀ v, s2 5 v = ss 5 v)
theorem AK2.y {pp ss s2 : TT} (x : AK2 pp ss s2) : s2 0 0 = ss 0 0 := x.1
theorem AK2.o {pp ss s2 : TT} (x : AK2 pp ss s2) : s2 3 0 = ss 3 0 := x.2.1
theorem AK2.v {pp ss s2 : TT} (x : AK2 pp ss s2) : ∀ v, s2 5 v = ss 5 v := x.2.2
theorem ctc0 {hs : List (Nat × Nat × Nat × Nat)} {pc : Nat} {P : Prop} {G : Nat → Prop} (p : P) : am_ctc hs 0 pc P G := p
section
variable {d : Nat} {h : AH} {a : Int} {A pp ss : TT} {bb : Int → Int → Int} {tt : Int → List Op} {tp : Int → Int} {er q dq : Int} {K : AK}
theorem BO.go {h2 h3 : AH} {s2 : TT} {R : Int → Prop} {n : Int} (B : BO h a A pp ss bb tt tp er q dq) (c2 : SM h2 a A pp s2 bb) (f2 : FX R h h2) (hR : ∀ b, R b → -200000000 ≤ b ∧ b < 0) (k : GC h2 pp ss tt 0 tp er q dq → (∀ h3, Fr 35 18 h2 h3 → GC h3 pp s2 tt 0 tp er q dq → BO h3 a A pp s2 bb tt tp er q dq) → K 0 n h3) : K 0 n h3 :=
  k (B.g.fx f2 hR) (fun h3 f3 g3 => ⟨c2.fr (B.o.mono (fun b z => Or.inl z.2)) f3 (by decide) (by decide), g3, B.o⟩)
theorem s178_90 {v p : Int} {nc ns : Nat} {y2 y6 y7 : AV} {s0 : Int} (B : BO h a A pp ss bb tt tp er q dq) (v0 : 0 ≤ v) (v1 : v < pp 2 0) (p0 : 0 ≤ p) (p1 : p < pp 1 0) (hc : nc + 1 ≤ 8 ∧ ns + 6 ≤ 48) (k : ∀ h2 s2, BO h2 a A pp s2 bb tt tp er q dq → AK2 pp ss s2 → K 0 1 h2) :
    WP (d + 2) 178 (90, [(2, 0), (2, a), y2, (0, v), (0, p), (0, ss 9 (12 * v + p)), y6, y7], [(0, s0), (0, p), (2, A 7 v)], h, nc, ns) K := by
  obtain ⟨l1, l2, l3, l4⟩ := B.c.l v v0 v1
  have key : ∀ z : Int, z = 0 ∨ z = 1 → WP (d + 2) 178 (99, [(2, 0), (2, a), y2, (0, v), (0, p), (0, ss 9 (12 * v + p)), y6, y7], [], am_w h (A 7 v) p z, nc, ns) K := by
    intro z hz
    have c2 := B.c.u9 (x := z) v0 v1 p0 p1 (B.c.si.u9 v0 v1 p0 p1 B.c.pi hz)
    have f2 : FX (fun b => b = A 7 v) h (am_w h (A 7 v) p z) := FX.rf.w rfl
    have g2 := B.g.fx f2 (fun b hb => by rw [hb]; exact (B.o.2.2.2.2.2.2.2.1 v v0 v1).2)
    obtain ⟨m1, m2, m3, m4⟩ := c2.l v v0 v1
    have m5 := m4 p p0 p1
    rw [su_eq] at m5
    refine v178_99 ?_
    rw [c2.t, c2.m7, c2.lt, c2.ll, m1, m2, m3, m5, g2.t0]
    refine ⟨rfl, ⟨Or.inr rfl, v0, v1⟩, ⟨rfl, p0, p1⟩, ⟨rfl, hc.1, hc.2⟩, c116 g2 hz (fun _ h3 f3 g3 => ctc0 (v178_115 ⟨fun _ => ⟨Or.inr rfl, ?_⟩, fun z => absurd rfl z⟩)) (fun z => absurd ⟨⟨v0, v1⟩, p0, p1⟩ z)⟩
    exact k h3 _ ⟨c2.fr (B.o.mono (fun b z => Or.inl z.2)) f3 (by decide) (by decide), g3, B.o⟩ ⟨su_ne (by omega), su_ne (by omega), fun _ => su_ne (by omega)⟩
  refine v178_90 ?_
  rw [l2, l3]
  exact ⟨fun _ => ⟨⟨rfl, Or.inr rfl, p0, p1⟩, key 1 (Or.inr rfl)⟩, fun _ => ⟨⟨rfl, Or.inl rfl, p0, p1⟩, key 0 (Or.inl rfl)⟩⟩
theorem s178_152 {v c0 : Int} {nc ns : Nat} {y2 y4 y5 y6 y7 : AV} (B : BO h a A pp ss bb tt tp er q dq) (v0 : 0 ≤ v) (v1 : v < pp 2 0) (hx : 0 ≤ c0 ∧ c0 < 999) (hc : nc + 1 ≤ 8 ∧ ns + 6 ≤ 48) (k : ∀ h2 s2, BO h2 a A pp s2 bb tt tp er q dq → AK2 pp ss s2 → K 0 1 h2) :
    WP (d + 2) 178 (152, [(2, 0), (2, a), y2, (0, v), y4, y5, y6, y7], [(0, c0), (0, 1)], h, nc, ns) K := by
  obtain ⟨l1, l2, l3, l4, -⟩ := B.c.v v v0 v1
  have hq := B.c.si.purse v0 v1
  have c2 := B.c.u4 (x := min 9999 (ss 4 v + (1 + c0))) v0 v1 (B.c.si.u4 (by omega))
  have f2 : FX (fun b => b = A 6 v) h (am_w h (A 6 v) 0 (min 9999 (ss 4 v + (1 + c0)))) := FX.rf.w rfl
  have g2 := B.g.fx f2 (fun b hb => by rw [hb]; exact (B.o.2.2.2.2.2.2.2.1 v v0 v1).1)
  refine v178_152 ?_
  rw [B.c.t, B.c.m6, B.c.vt, B.c.vl, l1, l2, l3, l4, w32_id (x := 1 + c0) (by omega) (by omega), w32_id (x := ss 4 v + (1 + c0)) (by omega) (by omega)]
  refine ⟨rfl, ⟨Or.inl rfl, v0, v1⟩, rfl, ⟨Or.inl rfl, v0, v1⟩, ⟨rfl, by decide, by decide⟩, ⟨rfl, by decide, by decide⟩, v178_180 ⟨⟨g2.t0, hc.1, hc.2⟩, c117 g2 (fun _ h3 f3 g3 => ctc0 (v178_187 ?_)) (fun z => absurd ⟨by omega, by omega⟩ z.2) (fun z => absurd ⟨v0, v1⟩ z)⟩⟩
  have c3 := c2.fr (B.o.mono (fun b z => Or.inl z.2)) f3 (by decide) (by decide)
  obtain ⟨m1, m2, m3, m4, -⟩ := c3.v v v0 v1
  rw [su_eq] at m4
  rw [c3.t, c3.m6, c3.vt, c3.vl, m1, m2, m3, m4]
  exact ⟨rfl, ⟨Or.inl rfl, v0, v1⟩, ⟨rfl, by decide, by decide⟩, fun _ => ⟨Or.inr rfl, k h3 _ ⟨c3, g3, B.o⟩ ⟨su_ne (by omega), su_ne (by omega), fun _ => su_ne (by omega)⟩⟩, fun z => absurd rfl z⟩
theorem s178_237 {x : Int} {nc ns : Nat} {y2 y3 y4 y6 y7 : AV} (B : BO h a A pp ss bb tt tp er q dq) (hx : 0 ≤ x ∧ x ≤ 9999) (hc : nc + 1 ≤ 8 ∧ ns + 6 ≤ 48) (k : ∀ h2 s2, BO h2 a A pp s2 bb tt tp er q dq → AK2 pp ss s2 → K 0 1 h2) :
    WP (d + 2) 178 (237, [(2, 0), (2, a), y2, y3, y4, (0, ss 1 0), y6, y7], [(0, x), (2, a)], h, nc, ns) K := by
  have c2 := B.c.u1 (x := x) (B.c.si.u1 hx)
  have f2 : FX (fun b => b = a) h (am_w h a 3 x) := FX.rf.w rfl
  have g2 := B.g.fx f2 (fun b hb => by rw [hb]; exact B.o.1)
  have m3 := c2.m3
  rw [su_eq] at m3
  refine v178_237 ⟨B.c.t, v178_240 ?_⟩
  rw [c2.t, m3, g2.t0]
  refine ⟨rfl, ⟨rfl, hc.1, hc.2⟩, c118 g2 (fun _ h3 f3 g3 => ctc0 (v178_248 ⟨fun _ => ⟨Or.inr rfl, k h3 _ ⟨c2.fr (B.o.mono (fun b z => Or.inl z.2)) f3 (by decide) (by decide), g3, B.o⟩ ⟨su_ne (by omega), su_ne (by omega), fun _ => su_ne (by omega)⟩⟩, fun z => absurd rfl z⟩)) (fun z => absurd hx z)⟩
theorem s178_open {v p : Int} {nc ns : Nat} {y2 y6 y7 : AV} (B : BO h a A pp ss bb tt tp er q dq) (p0 : 0 ≤ p) (p1 : p < pp 1 0) (k : ∀ h2 s2, BO h2 a A pp s2 bb tt tp er q dq → AK2 pp ss s2 → K 0 1 h2) :
    am_call (d + 1) 119 [(2, 0), (0, p)] h (fun x1 v2 h3 => am_ctc [(270, 278, 281, 1)] x1 273 (WP (d + 2) 178 (276, [(2, 0), (2, a), y2, (0, v), (0, p), (0, ss 7 p), y6, y7], [(0, v2)], h3, nc, ns) K) (fun q => WP (d + 2) 178 (q, [(2, 0), (2, a), y2, (0, v), (0, p), (0, ss 7 p), y6, y7], [(10, 0)], h3, nc, ns) K)) := by
  have hb := (B.c.si.2.2.2.2.1 p p0 p1).2.1
  have y0 := B.c.si.1
  have go : ∀ h3, Fr 35 18 h h3 → SM h3 a A pp ss bb := fun h3 f3 => B.c.fr (B.o.mono (fun b z => Or.inl z.2)) f3 (by decide) (by decide)
  have q5 := B.o.2.2.2.2.2.2.1 p p0 p1
  refine c119 B.g (fun z h3 f3 g3 => ctc0 ?_) (fun z h3 f3 g3 => ?_) (fun z => absurd ⟨p0, p1⟩ z)
  · have c3 := go h3 f3
    obtain ⟨e1, e2, e3, -, -, -, e7, -⟩ := c3.p p p0 p1
    have c4 := c3.u7 (x := -1) p0 p1 (c3.si.u7 ⟨by omega, by omega⟩)
    have c5 := c4.u8 (x := 0) p0 p1 (c4.si.u8 (Or.inl rfl))
    have f5 : FX (fun b => b = A 5 p) h3 (am_w (am_w h3 (A 5 p) 3 (-1)) (A 5 p) 4 0) := (FX.rf.w (R := fun b => b = A 5 p) (a := A 5 p) rfl).w rfl
    have g5 := g3.fx f5 (fun b hb => by rw [hb]; exact q5)
    obtain ⟨m1, m2, m3, -⟩ := c4.p p p0 p1
    refine v178_276 ?_
    rw [c3.t, c3.m5, c3.pt, c3.pl, e1, e2, e3]
    refine ⟨rfl, ⟨Or.inl rfl, p0, p1⟩, ⟨rfl, by decide, by decide⟩, v178_296 ⟨fun y => absurd y (by omega), fun _ => ?_⟩⟩
    rw [c4.t, c4.m5, c4.pt, c4.pl, m1, m2, m3]
    exact ⟨rfl, ⟨Or.inl rfl, p0, p1⟩, ⟨rfl, by decide, by decide⟩, v178_311 ⟨fun _ => ⟨Or.inr rfl, k _ _ ⟨c5, g5, B.o⟩ ⟨(su_ne (by omega)).trans (su_ne (by omega)), (su_ne (by omega)).trans (su_ne (by omega)), fun _ => (su_ne (by omega)).trans (su_ne (by omega))⟩⟩, fun z => absurd rfl z⟩⟩
  · have c3 := go h3 f3
    obtain ⟨e1, e2, e3, -, -, -, e7, -⟩ := c3.p p p0 p1
    have c4 := c3.u7 (x := -1) p0 p1 (c3.si.u7 ⟨by omega, by omega⟩)
    rw [su_same z.2] at c4
    have f4 : FX (fun b => b = A 5 p) h3 (am_w h3 (A 5 p) 3 (-1)) := FX.rf.w rfl
    have g4 := g3.fx f4 (fun b hb => by rw [hb]; exact q5)
    show WP _ _ (281, _, _, _, _, _) K
    refine v178_281 ?_
    rw [c3.t, c3.m5, c3.pt, c3.pl, e1, e2, e3]
    refine ⟨rfl, ⟨Or.inl rfl, p0, p1⟩, ⟨rfl, by decide, by decide⟩, v178_296 ⟨fun _ => v178_311 ⟨fun _ => ⟨Or.inr rfl, k _ _ ⟨c4, g4, B.o⟩ ⟨rfl, rfl, fun _ => rfl⟩⟩, fun y => absurd z.2.symm y⟩, fun y => absurd (by omega) y⟩⟩
theorem s178 {x : Int} (B : BO h a A pp ss bb tt tp er q dq) (k : ∀ h2 s2, BO h2 a A pp s2 bb tt tp er q dq → AK2 pp ss s2 → K 0 1 h2) : am_call (d + 2) 178 [(2, 0), (2, a), (0, x)] h K := by
  have hN := B.c.p1
  have c := B.c
  refine v178 ?_
  rw [c.t, c.m6, c.vt, c.vl]
  refine ⟨rfl, by decide, s173 (by omega) (fun v v0 v1 => ctc0 (v178_11 ?_))⟩
  rw [c.t, c.m5, c.pt, c.pl]
  refine ⟨rfl, by decide, s173 (by omega) (fun p p0 p1 => ctc0 (v178_24 (s173 (by decide) (fun r r0 r1 => ctc0 (v178_32 ?_)))))⟩
  obtain ⟨l1, l2, l3, l4⟩ := c.l v v0 v1
  have l5 := l4 p p0 p1
  obtain ⟨p1', p2', p3', -, -, -, p7', -⟩ := c.p p p0 p1
  rw [c.t, c.m7, c.m5, c.m3, c.lt, c.ll, c.pt, c.pl, l1, l2, l3, l5, p1', p2', p3', p7', B.g.t0]
  refine ⟨fun _ => ⟨rfl, ⟨Or.inr rfl, v0, v1⟩, ⟨rfl, p0, p1⟩, rfl, ⟨Or.inr rfl, v0, v1⟩, s173 (by decide) (fun s _ _ => ctc0 (s178_90 B v0 v1 p0 p1 (by decide) k))⟩, fun _ => ⟨fun _ => ⟨rfl, ⟨Or.inr rfl, v0, v1⟩, ⟨rfl, p0, p1⟩, rfl, ⟨Or.inr rfl, v0, v1⟩, s173 (by decide) (fun s _ _ => ctc0 (s178_90 B v0 v1 p0 p1 (by decide) k))⟩, fun _ => ⟨fun _ => s173 (by decide) (fun s _ _ => ctc0 (v178_138 ⟨fun _ => s173 (by decide) (fun t t0 t1 => ctc0 (s178_152 B v0 v1 ⟨t0, t1⟩ (by decide) k)), fun _ => s173 (by decide) (fun t t0 t1 => ctc0 (s178_152 B v0 v1 ⟨t0, by omega⟩ (by decide) k))⟩)), fun _ => ⟨fun _ => ⟨rfl, s173 (by decide) (fun s _ _ => ctc0 (v178_222 ⟨fun _ => s173 (by decide) (fun t t0 t1 => ctc0 (s178_237 B ⟨t0, by omega⟩ (by decide) k)), fun _ => s173 (by decide) (fun t t0 t1 => ctc0 (s178_237 B ⟨t0, by omega⟩ (by decide) k))⟩))⟩, fun _ => ⟨rfl, ⟨Or.inl rfl, p0, p1⟩, ⟨rfl, by decide, by decide⟩, ⟨rfl, by decide, by decide⟩, s178_open B p0 p1 k⟩⟩⟩⟩⟩
end
