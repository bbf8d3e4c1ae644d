/-! ===== single bits, written ===== -/
theorem shr_bv {x : Int} {n : Nat} (hn : n < 12) : am_shr x (n : Int) = ((BitVec.ofInt 32 x).sshiftRight n).toInt := by
  have e : ∀ n : Nat, n < 12 → ((Int32.ofInt (n : Int) &&& 31).toBitVec.smod 32).toNat = n := by decide
  show ((BitVec.ofInt 32 x).sshiftRight ((Int32.ofInt (n : Int) &&& 31).toBitVec.smod 32).toNat).toInt = _
  rw [e n hn]
theorem bv_one (z : BitVec 32) : (z &&& BitVec.ofInt 32 1).toInt = if z.getLsbD 0 = true then 1 else 0 := by
  have e : z &&& BitVec.ofInt 32 1 = z &&& 1#32 := rfl
  rw [e, BitVec.and_one_eq_setWidth_ofBool_getLsbD]
  cases z.getLsbD 0 <;> rfl
theorem bt_bv {x : Int} {n : Nat} (hn : n < 12) : bt x (n : Int) = if (BitVec.ofInt 32 x).getLsbD n = true then 1 else 0 := by
  unfold bt
  rw [shr_bv hn]
  show (BitVec.ofInt 32 ((BitVec.ofInt 32 x).sshiftRight n).toInt &&& BitVec.ofInt 32 1).toInt = _
  rw [BitVec.ofInt_toInt, bv_one, BitVec.getLsbD_sshiftRight]
  have e1 : ¬ 32 ≤ 0 := by decide
  have e2 : n + 0 < 32 := by omega
  simp [e2, Nat.lt_of_lt_of_le hn (show 12 ≤ 32 by decide)]
def sh1 (n : Int) : Int := am_shl 1 n
def ms1 (n : Int) : Int := am_xor (am_shl 1 n) (-1)
theorem sh1_rg : ∀ n : Nat, n < 12 → (BitVec.ofInt 32 (sh1 (n : Int))).toNat < 4096 := by decide
theorem sh1_bit : ∀ n : Nat, n < 12 → ∀ m : Nat, m < 12 → (BitVec.ofInt 32 (sh1 (n : Int))).getLsbD m = decide (m = n) := by decide
theorem ms1_bit : ∀ n : Nat, n < 12 → ∀ m : Nat, m < 12 → (BitVec.ofInt 32 (ms1 (n : Int))).getLsbD m = !decide (m = n) := by decide
theorem bv_nat {x : Int} (h0 : 0 ≤ x) (h1 : x < 4096) : (BitVec.ofInt 32 x).toNat < 4096 := by
  rw [BitVec.toNat_ofInt]
  have e : ((2 ^ 32 : Nat) : Int) = 4294967296 := rfl
  rw [e]
  omega
theorem bv_int {z : BitVec 32} (h : z.toNat < 4096) : 0 ≤ z.toInt ∧ z.toInt < 4096 := by
  rw [BitVec.toInt_eq_toNat_cond]
  have e : (2 : Nat) ^ 32 = 4294967296 := rfl
  rw [e, if_pos (by omega)]
  omega
/-- the bit on -/
theorem on_rg {x n : Int} (h0 : 0 ≤ x) (h1 : x < 4096) (n0 : 0 ≤ n) (n1 : n < 12) : 0 ≤ am_or x (am_shl 1 n) ∧ am_or x (am_shl 1 n) < 4096 := by
  obtain ⟨k, rfl⟩ : ∃ k : Nat, n = (k : Int) := ⟨n.toNat, by omega⟩
  show 0 ≤ (BitVec.ofInt 32 x ||| BitVec.ofInt 32 (sh1 (k : Int))).toInt ∧ (BitVec.ofInt 32 x ||| BitVec.ofInt 32 (sh1 (k : Int))).toInt < 4096
  refine bv_int ?_
  rw [BitVec.toNat_or]
  exact Nat.or_lt_two_pow (n := 12) (bv_nat h0 h1) (sh1_rg k (by omega))
theorem on_bit {x n m : Int} (n0 : 0 ≤ n) (n1 : n < 12) (m0 : 0 ≤ m) (m1 : m < 12) : bt (am_or x (am_shl 1 n)) m = if m = n then 1 else bt x m := by
  obtain ⟨k, rfl⟩ : ∃ k : Nat, n = (k : Int) := ⟨n.toNat, by omega⟩
  obtain ⟨j, rfl⟩ : ∃ j : Nat, m = (j : Int) := ⟨m.toNat, by omega⟩
  rw [bt_bv (by omega), bt_bv (by omega)]
  show (if (BitVec.ofInt 32 (BitVec.ofInt 32 x ||| BitVec.ofInt 32 (sh1 (k : Int))).toInt).getLsbD j = true then (1 : Int) else 0) = _
  rw [BitVec.ofInt_toInt, BitVec.getLsbD_or, sh1_bit k (by omega) j (by omega)]
  by_cases z : j = k
  · subst z
    simp
  · have z2 : ¬ (j : Int) = (k : Int) := by omega
    simp [z, z2]
/-- the bit off -/
theorem off_rg {x n : Int} (h0 : 0 ≤ x) (h1 : x < 4096) : 0 ≤ am_and x (am_xor (am_shl 1 n) (-1)) ∧ am_and x (am_xor (am_shl 1 n) (-1)) < 4096 := by
  show 0 ≤ (BitVec.ofInt 32 x &&& BitVec.ofInt 32 (ms1 n)).toInt ∧ (BitVec.ofInt 32 x &&& BitVec.ofInt 32 (ms1 n)).toInt < 4096
  refine bv_int ?_
  rw [BitVec.toNat_and]
  exact Nat.lt_of_le_of_lt Nat.and_le_left (bv_nat h0 h1)
theorem off_bit {x n m : Int} (n0 : 0 ≤ n) (n1 : n < 12) (m0 : 0 ≤ m) (m1 : m < 12) : bt (am_and x (am_xor (am_shl 1 n) (-1))) m = if m = n then 0 else bt x m := by
  obtain ⟨k, rfl⟩ : ∃ k : Nat, n = (k : Int) := ⟨n.toNat, by omega⟩
  obtain ⟨j, rfl⟩ : ∃ j : Nat, m = (j : Int) := ⟨m.toNat, by omega⟩
  rw [bt_bv (by omega), bt_bv (by omega)]
  show (if (BitVec.ofInt 32 (BitVec.ofInt 32 x &&& BitVec.ofInt 32 (ms1 (k : Int))).toInt).getLsbD j = true then (1 : Int) else 0) = _
  rw [BitVec.ofInt_toInt, BitVec.getLsbD_and, ms1_bit k (by omega) j (by omega)]
  by_cases z : j = k
  · subst z
    simp
  · have z2 : ¬ (j : Int) = (k : Int) := by omega
    simp [z, z2]
theorem SI.u9 {pp ss : TT} {v p x : Int} (hS : SI pp ss) (v0 : 0 ≤ v) (v1 : v < pp 2 0) (p0 : 0 ≤ p) (p1 : p < pp 1 0) (hI : PI pp) (hx : x = 0 ∨ x = 1) : SI pp (su ss 9 (12 * v + p) x) := by
  have np := hI.np
  have nv := hI.nv
  have se : ∀ k' i', ¬ (k' = 9 ∧ i' = 12 * v + p) → su ss 9 (12 * v + p) x k' i' = ss k' i' := fun k' i' hn => su_ne hn
  obtain ⟨x1, x2, x3, x4, x5, x6, x7⟩ := hS
  refine ⟨by rw [se _ _ (by omega)]; exact x1, by rw [se _ _ (by omega)]; exact x2, by rw [se _ _ (by omega)]; exact x3, fun v2 z1 z2 => by rw [se _ _ (by omega)]; exact x4 v2 z1 z2, fun p2 z1 z2 => ?_, fun i => ?_, fun v2 p2 z1 z2 z3 z4 z5 => by rw [se _ _ (by omega)]; exact x7 v2 p2 z1 z2 z3 z4 z5⟩
  · rw [se 6 _ (by omega), se 7 _ (by omega), se 8 _ (by omega), se 0 _ (by omega)]
    exact x5 p2 z1 z2
  · by_cases z : i = 12 * v + p
    · subst z
      rw [su_eq]
      exact hx
    · rw [se _ _ (by omega)]
      exact x6 i
theorem CC.u9 {h : AH} {a q v p y x : Int} {pp ss : TT} (c : CC h a q pp ss) (v0 : 0 ≤ v) (v1 : v < pp 2 0) (p0 : 0 ≤ p) (p1 : p < pp 1 0) (hx : x = 0 ∨ x = 1) (yr : 0 ≤ y ∧ y < 4096) (hy : ∀ m, 0 ≤ m → m < 12 → bt y m = if m = v then x else bt (am_m h (a + 5) p) m) : CC (am_w h (a + 5) p y) a q pp (su ss 9 (12 * v + p) x) := by
  have hs := c.S.u9 v0 v1 p0 p1 c.I hx
  have np := c.I.np
  have nv := c.I.nv
  obtain ⟨x1, x2, x3, x4, x5, x6⟩ := c
  obtain ⟨y1, y2, y3, y4, y5, y6⟩ := x3
  have ee : ∀ b' i', ¬ (b' = a + 5 ∧ i' = p) → am_m (am_w h (a + 5) p y) b' i' = am_m h b' i' := fun b' i' hn => by rw [am_m_w, if_neg hn]
  have se : ∀ k' i', ¬ (k' = 9 ∧ i' = 12 * v + p) → su ss 9 (12 * v + p) x k' i' = ss k' i' := fun k' i' hn => su_ne hn
  have hf : Fr a 9 h (am_w h (a + 5) p y) := Fr.rf.w (by omega) (by omega)
  refine ⟨x1.w (by omega), x2.fr hf (by omega), ⟨(ee _ _ (by omega)).trans (y1.trans (se _ _ (by omega)).symm), (ee _ _ (by omega)).trans (y2.trans (se _ _ (by omega)).symm), (ee _ _ (by omega)).trans (y3.trans (se _ _ (by omega)).symm), (ee _ _ (by omega)).trans (y4.trans (se _ _ (by omega)).symm), fun v2 z1 z2 => ⟨(ee _ _ (by omega)).trans ((y5 v2 z1 z2).1.trans (se _ _ (by omega)).symm), (ee _ _ (by omega)).trans ((y5 v2 z1 z2).2.trans (se _ _ (by omega)).symm)⟩, fun p2 z1 z2 => ?_⟩, x4, hs, x6⟩
  obtain ⟨w1, w2, w3, w4, w5⟩ := y6 p2 z1 z2
  refine ⟨(ee _ _ (by omega)).trans (w1.trans (se _ _ (by omega)).symm), (ee _ _ (by omega)).trans (w2.trans (se _ _ (by omega)).symm), (ee _ _ (by omega)).trans (w3.trans (se _ _ (by omega)).symm), ?_⟩
  by_cases z : p2 = p
  · subst z
    rw [am_m_w, if_pos ⟨rfl, rfl⟩]
    refine ⟨yr, fun v2 z3 z4 => ?_⟩
    have := hy v2 z3 z4
    unfold bt at this
    rw [this]
    by_cases zv : v2 = v
    · subst zv
      rw [if_pos rfl, su_eq]
    · rw [if_neg zv, se _ _ (by omega)]
      exact w5 v2 z3 z4
  · rw [ee _ _ (by omega)]
    exact ⟨w4, fun v2 z3 z4 => (w5 v2 z3 z4).trans (se _ _ (by omega)).symm⟩
theorem c63 {d : Nat} {h : AH} {a q v p x lo : Int} {pp ss : TT} {K : AK} (c : CC h a q pp ss) (hl : am_m h a 2 = lo) (v0 : 0 ≤ v) (v1 : v < pp 2 0) (p0 : 0 ≤ p) (p1 : p < pp 1 0) (hx : x = 0 ∨ x = 1) (k : ∀ h2, Fr a 9 h h2 → CC h2 a q pp (su ss 9 (12 * v + p) x) → am_m h2 a 2 = lo → K 0 0 h2) : am_call d 63 [(2, a), (0, v), (0, p), (0, x)] h K := by
  have np := c.I.np
  have nv := c.I.nv
  have fb := c.fb p0 p1
  refine v63 ?_
  simp only [c.P.t, c.P.f5, c.P.f3, c.P.t1, c.P.l1, c.P.f4, c.P.t2, c.P.l2, c.P.f8, c.P.t3, c.P.l3, c.P.f9, c.P.t4, c.P.l4, c.P.f10, c.P.t5, c.P.l5, c.P.f11, c.P.t6, c.P.l6, c.P.f12, c.P.t7, c.P.l7, c.P.f13, c.P.t8, c.P.l8, c.Q.t, c.Q.f6, c.Q.t1, c.Q.l1, c.Q.f7, c.Q.t2, c.Q.l2, c.Q.f8, c.Q.t3, c.Q.l3, c.Q.f9, c.Q.t4, c.Q.l4, c.Q.f10, c.Q.t5, c.Q.l5, c.Q.f11, c.Q.t6, c.Q.l6, c.Q.f12, c.Q.t7, c.Q.l7, c.Q.f13, c.Q.t8, c.Q.l8, c.Q.f14, c.Q.t9, c.Q.l9, c.nw, c.np, c.nv, c.nb, c.yr, c.bud, c.pot, c.pd, true_and]
  refine ⟨fun z => ⟨⟨p0, by omega⟩, ⟨p0, by omega⟩, k _ (Fr.rf.w (by omega) (by omega)) (c.u9 v0 v1 p0 p1 hx (off_rg fb.1 fb.2) (fun m z1 z2 => by rw [z]; exact off_bit v0 (by omega) z1 z2)) (by rw [am_m_w, if_neg (by omega)]; exact hl)⟩, fun z => ⟨⟨p0, by omega⟩, ⟨p0, by omega⟩, k _ (Fr.rf.w (by omega) (by omega)) (c.u9 v0 v1 p0 p1 hx (on_rg fb.1 fb.2 v0 (by omega)) (fun m z1 z2 => by rw [hx.resolve_left z]; exact on_bit v0 (by omega) z1 z2)) (by rw [am_m_w, if_neg (by omega)]; exact hl)⟩⟩
theorem c65 {d : Nat} {h : AH} {a q p lo : Int} {pp ss : TT} {K : AK} (c : CC h a q pp ss) (hl : am_m h a 2 = lo) (p0 : 0 ≤ p) (p1 : p < pp 1 0) (k : ∀ h2, Fr a 9 h h2 → CC h2 a q pp (su (su ss 7 p (-1)) 8 p 0) → am_m h2 a 2 = lo → K 0 0 h2) : am_call d 65 [(2, a), (0, p)] h K := by
  have np := c.I.np
  have yr := c.S.yr
  have c2 := c.u7 (i := p) (v := -1) (c.S.u7 ⟨by omega, by omega⟩)
  refine v65 ?_
  simp only [c.P.t, c.P.f5, c.P.f3, c.P.t1, c.P.l1, c.P.f4, c.P.t2, c.P.l2, c.P.f8, c.P.t3, c.P.l3, c.P.f9, c.P.t4, c.P.l4, c.P.f10, c.P.t5, c.P.l5, c.P.f11, c.P.t6, c.P.l6, c.P.f12, c.P.t7, c.P.l7, c.P.f13, c.P.t8, c.P.l8, c.Q.t, c.Q.f6, c.Q.t1, c.Q.l1, c.Q.f7, c.Q.t2, c.Q.l2, c.Q.f8, c.Q.t3, c.Q.l3, c.Q.f9, c.Q.t4, c.Q.l4, c.Q.f10, c.Q.t5, c.Q.l5, c.Q.f11, c.Q.t6, c.Q.l6, c.Q.f12, c.Q.t7, c.Q.l7, c.Q.f13, c.Q.t8, c.Q.l8, c.Q.f14, c.Q.t9, c.Q.l9, c.nw, c.np, c.nv, c.nb, c.yr, c.bud, c.pot, c.pd, true_and]
  simp only [c2.P.t, c2.P.f5, c2.P.f3, c2.P.t1, c2.P.l1, c2.P.f4, c2.P.t2, c2.P.l2, c2.P.f8, c2.P.t3, c2.P.l3, c2.P.f9, c2.P.t4, c2.P.l4, c2.P.f10, c2.P.t5, c2.P.l5, c2.P.f11, c2.P.t6, c2.P.l6, c2.P.f12, c2.P.t7, c2.P.l7, c2.P.f13, c2.P.t8, c2.P.l8, c2.Q.t, c2.Q.f6, c2.Q.t1, c2.Q.l1, c2.Q.f7, c2.Q.t2, c2.Q.l2, c2.Q.f8, c2.Q.t3, c2.Q.l3, c2.Q.f9, c2.Q.t4, c2.Q.l4, c2.Q.f10, c2.Q.t5, c2.Q.l5, c2.Q.f11, c2.Q.t6, c2.Q.l6, c2.Q.f12, c2.Q.t7, c2.Q.l7, c2.Q.f13, c2.Q.t8, c2.Q.l8, c2.Q.f14, c2.Q.t9, c2.Q.l9, c2.nw, c2.np, c2.nv, c2.nb, c2.yr, c2.bud, c2.pot, c2.pd, true_and]
  exact ⟨⟨p0, by omega⟩, ⟨p0, by omega⟩, k _ ((Fr.rf.w (by omega) (by omega)).w (by omega) (by omega)) (c2.u8 (c2.S.u8 (Or.inl rfl))) (by rw [am_m_w, if_neg (by omega), am_m_w, if_neg (by omega)]; exact hl)⟩
