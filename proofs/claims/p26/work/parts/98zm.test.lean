/-! ===== the law's method that writes a ban's test (printed by gen_test.py) ===== -/
theorem s176 {d : Nat} {L : Nat} {xs : Nat → Int32} {h : AH} {R o P V N : Int} {pp : TT} {b : Int → Int} {K : AK} (x : KX (am_h0 L xs) h N) (hN : N < -7000) (r1 : am_t h R = 20) (r2 : am_l h R = 5) (r3 : ∀ j, 0 ≤ j → j < 5 → am_m h R j = b j) (r4 : R < am_n h) (o1 : am_t h o = 7) (o2 : am_m h o 5 = P) (o3 : am_m h o 6 = V) (o4 : o < am_n h) (q1 : am_t h P = 24) (q2 : am_l h P = pp 1 0) (q3 : P < am_n h) (v1 : am_t h V = 24) (v2 : am_l h V = pp 2 0) (v3 : V < am_n h) (hp : 1 ≤ pp 1 0 ∧ pp 1 0 ≤ 7 ∧ 1 ≤ pp 2 0 ∧ pp 2 0 ≤ 7) (br : (0 ≤ b 1 ∧ b 1 < 8) ∧ (0 ≤ b 2 ∧ b 2 < 20) ∧ (0 ≤ b 3 ∧ b 3 < 90) ∧ 0 ≤ b 4 ∧ b 4 < 42)
    (k : ∀ h2 s w, TS h2 s w (tsB pp b) → KX (am_h0 L xs) h2 (N + 60) → KpO (am_n h) h h2 → am_n h ≤ s → am_n h ≤ w → K 0 s h2) : am_call (d + 6) 176 [(2, R), (2, o)] h K := by
  have xn := x.n
  have q0' := Int.emod_nonneg (b 4) (show pp 1 0 ≠ 0 by omega)
  have q1' := Int.emod_lt_of_pos (b 4) (show 0 < pp 1 0 by omega)
  have v0' := Int.emod_nonneg (b 4) (show pp 2 0 ≠ 0 by omega)
  have v1' := Int.emod_lt_of_pos (b 4) (show 0 < pp 2 0 by omega)
  have tq : (b 4).tmod (pp 1 0) = b 4 % pp 1 0 := Int.tmod_eq_emod_of_nonneg br.2.2.2.1
  have tv : (b 4).tmod (pp 2 0) = b 4 % pp 2 0 := Int.tmod_eq_emod_of_nonneg br.2.2.2.1
  have t5 : (b 2).tmod 5 = b 2 % 5 := Int.tmod_eq_emod_of_nonneg br.2.1.1
  have t7 : (b 2).tmod 7 = b 2 % 7 := Int.tmod_eq_emod_of_nonneg br.2.1.1
  have dq := dg_l4 (x := b 4 % pp 1 0)
  have dv := dg_l4 (x := b 4 % pp 2 0)
  have rr : ∀ {g : AH}, KpO (am_n h) h g → am_t g R = 20 ∧ am_l g R = 5 ∧ ∀ j, 0 ≤ j → j < 5 → am_m g R j = b j := fun kk => ⟨(kk.c R r4).1.trans r1, (kk.c R r4).2.1.trans r2, fun j j0 j1 => ((kk.c R r4).2.2 j).trans (r3 j j0 j1)⟩
  have m2 := r3 2 (by decide) (by decide)
  have m3 := r3 3 (by decide) (by decide)
  refine v176 ?_
  rw [r1, r2, m2, m3, t5, t7, show w32 (b 2 % 5 + 1) = b 2 % 5 + 1 from w32_id (by omega) (by omega)]
  refine ⟨⟨rfl, by decide, by decide⟩, ⟨rfl, by decide, by decide⟩, ⟨Or.inl (by omega), by decide, by decide⟩, ⟨by omega, by decide, by decide⟩, zB x (by omega) (fun g1 B1 => okx ⟨⟨B1.x.tb.t, by decide, by decide⟩, zC B1 2 rfl (by decide) (ts := [112]) rfl (by omega) (by simp <;> omega) (fun g2 w2 B2 => okx ?_)⟩)⟩
  obtain ⟨a1, a2, a3⟩ := rr B2.k
  have oo := B2.k.c o o4
  have pq := B2.k.c P q3
  rw [a1, a2, a3 4 (by decide) (by decide), oo.1, o1, oo.2.2 5, o2, pq.1, q1, pq.2.1, q2, tq]
  refine ⟨⟨rfl, by decide, by decide⟩, rfl, by decide, by omega, ⟨B2.x.tb.t, by decide, by decide⟩, zN B2 (by omega) (by omega) (by simp <;> omega) (fun g3 w3 B3 => okx ⟨⟨B3.x.tb.t, by decide, by decide⟩, zT B3 (by omega) (fun g4 tp x4 k4 n4 e4 => okx ?_)⟩)⟩
  have x4n := x4.n
  refine ⟨by omega, ⟨Or.inl (by omega), by decide, by decide⟩, ⟨by omega, by decide, by decide⟩, zB x4 (by omega) (fun g5 B5 => okx ⟨⟨B5.x.tb.t, by decide, by decide⟩, zC B5 3 rfl (by decide) (ts := [118]) rfl (by omega) (by simp <;> omega) (fun g6 w6 B6 => okx ?_)⟩)⟩
  have k6 := k4.tr (B6.k.le (by omega))
  obtain ⟨a1, a2, a3⟩ := rr k6
  have oo := k6.c o o4
  have pq := k6.c V v3
  rw [a1, a2, a3 4 (by decide) (by decide), oo.1, o1, oo.2.2 6, o3, pq.1, v1, pq.2.1, v2, tv]
  refine ⟨⟨rfl, by decide, by decide⟩, rfl, by decide, by omega, ⟨B6.x.tb.t, by decide, by decide⟩, zN B6 (by omega) (by omega) (by simp <;> omega) (fun g7 w7 B7 => okx ⟨⟨B7.x.tb.t, by decide, by decide⟩, zT B7 (by omega) (fun hc tv0 xc kc nc' ec => okx ?_)⟩)⟩
  have tp := tp.ko kc (by omega) (by omega)
  have kh := k4.tr (kc.le (by omega))
  obtain ⟨a1, a2, a3⟩ := rr kh
  have xcn := xc.n
  clear B1 B2 B3 B5 B6 B7 k6
  rw [a1, a2, a3 1 (by decide) (by decide)]
  have hcn : am_n g3 + 1 < am_n hc ∧ am_n g7 + 1 < am_n hc := by omega
  have tv := tv0
  have fin : ∀ {h2 : AH} {g : AH} {ts : List Int} {N2 : Int}, TS h2 (am_n g) (am_n g + 1) ts → KX (am_h0 L xs) h2 N2 → N2 ≤ N + 60 → KpO (am_n hc) hc h2 → am_n hc ≤ am_n g → tsB pp b = ts → K 0 (am_n g) h2 := fun t2 x2 n2 k2 n3 e => k _ _ _ (by rw [e]; exact t2) (x2.le n2) (kh.tr (k2.le (by omega))) (by omega) (by omega)
  refine ⟨by omega, ⟨rfl, by decide, by decide⟩, fun z0 => ?_, fun z0 => ⟨fun z1 => ?_, fun z1 => ⟨fun z2 => ?_, fun z2 => ⟨fun z3 => ?_, fun z3 => ⟨fun z4 => ?_, fun z4 => ⟨fun z5 => ?_, fun z5 => ⟨fun z6 => ?_, fun z6 => ?_⟩⟩⟩⟩⟩⟩⟩
  · refine ⟨⟨Or.inl (by omega), by decide, by decide⟩, ⟨by omega, by decide, by decide⟩, zB xc (by omega) (fun g0 B0 => okx ⟨⟨B0.x.tb.t, by decide, by decide⟩, zC B0 4 rfl (by decide) (ts := [121, 101, 97, 114, 47]) rfl (by omega) (by simp <;> omega) (fun g1 w1 B1 => okx ⟨by decide, ⟨B1.x.tb.t, by decide, by decide⟩, zN B1 (by omega) (by omega) (by simp <;> omega) (fun g2 w2 B2 => okx ⟨⟨B2.x.tb.t, by decide, by decide⟩, zC B2 5 rfl (by decide) (ts := [42]) rfl (by omega) (by simp <;> omega) (fun g3 w3 B3 => okx ⟨by decide, ⟨B3.x.tb.t, by decide, by decide⟩, zN B3 (by omega) (by omega) (by simp <;> omega) (fun g4 w4 B4 => okx ⟨⟨B4.x.tb.t, by decide, by decide⟩, zC B4 6 rfl (by decide) (ts := [61, 121, 101, 97, 114]) rfl (by omega) (by simp <;> omega) (fun g5 w5 B5 => okx ⟨⟨B5.x.tb.t, by decide, by decide⟩, zT B5 (by omega) (fun h2 t2 x2 k2 n2 e2 => okx ?_)⟩)⟩)⟩)⟩)⟩)⟩)⟩
    refine fin t2 x2 (by omega) k2 n2 ?_
    unfold tsB
    rw [if_pos z0]
    simp
  · refine ⟨⟨Or.inl (by omega), by decide, by decide⟩, ⟨by omega, by decide, by decide⟩, zB xc (by omega) (fun g0 B0 => okx ⟨⟨B0.x.tb.t, by decide, by decide⟩, zC B0 7 rfl (by decide) (ts := [112, 111, 116, 60]) rfl (by omega) (by simp <;> omega) (fun g1 w1 B1 => okx ⟨⟨B1.x.tb.t, by decide, by decide⟩, zN B1 (by omega) (by omega) (by simp <;> omega) (fun g2 w2 B2 => okx ⟨⟨B2.x.tb.t, by decide, by decide⟩, zT B2 (by omega) (fun h2 t2 x2 k2 n2 e2 => okx ?_)⟩)⟩)⟩)⟩
    refine fin t2 x2 (by omega) k2 n2 ?_
    unfold tsB
    rw [if_neg z0, if_pos z1]
    simp
  · refine ⟨⟨Or.inl (by omega), by decide, by decide⟩, ⟨by omega, by decide, by decide⟩, zB xc (by omega) (fun g0 B0 => okx ⟨⟨B0.x.tb.t, by decide, by decide⟩, zC B0 8 rfl (by decide) (ts := [98, 117, 105, 108, 116, 32]) rfl (by omega) (by simp <;> omega) (fun g1 w1 B1 => okx ⟨⟨B1.x.tb.t, by decide, by decide⟩, zS B1 (tp.ko B1.k (by omega) (by omega)) (by omega) (by omega) (by omega) (by simp <;> omega) (fun g2 w2 B2 => okx ⟨⟨B2.x.tb.t, by decide, by decide⟩, zT B2 (by omega) (fun h2 t2 x2 k2 n2 e2 => okx ?_)⟩)⟩)⟩)⟩
    refine fin t2 x2 (by omega) k2 n2 ?_
    unfold tsB
    rw [if_neg z0, if_neg z1, if_pos z2]
    simp
  · refine ⟨⟨Or.inl (by omega), by decide, by decide⟩, ⟨by omega, by decide, by decide⟩, zB xc (by omega) (fun g0 B0 => okx ⟨⟨B0.x.tb.t, by decide, by decide⟩, zC B0 9 rfl (by decide) (ts := [108, 105, 107, 101, 115, 32]) rfl (by omega) (by simp <;> omega) (fun g1 w1 B1 => okx ⟨⟨B1.x.tb.t, by decide, by decide⟩, zS B1 (tv.ko B1.k (by omega) (by omega)) (by omega) (by omega) (by omega) (by simp <;> omega) (fun g2 w2 B2 => okx ⟨⟨B2.x.tb.t, by decide, by decide⟩, zC B2 10 rfl (by decide) (ts := [32]) rfl (by omega) (by simp <;> omega) (fun g3 w3 B3 => okx ⟨⟨B3.x.tb.t, by decide, by decide⟩, zS B3 (tp.ko B3.k (by omega) (by omega)) (by omega) (by omega) (by omega) (by simp <;> omega) (fun g4 w4 B4 => okx ⟨⟨B4.x.tb.t, by decide, by decide⟩, zT B4 (by omega) (fun h2 t2 x2 k2 n2 e2 => okx ?_)⟩)⟩)⟩)⟩)⟩)⟩
    refine fin t2 x2 (by omega) k2 n2 ?_
    unfold tsB
    rw [if_neg z0, if_neg z1, if_neg z2, if_pos z3]
    simp
  · refine ⟨⟨Or.inl (by omega), by decide, by decide⟩, ⟨by omega, by decide, by decide⟩, zB xc (by omega) (fun g0 B0 => okx ⟨⟨B0.x.tb.t, by decide, by decide⟩, zC B0 11 rfl (by decide) (ts := [99, 111, 115, 116, 32]) rfl (by omega) (by simp <;> omega) (fun g1 w1 B1 => okx ⟨⟨B1.x.tb.t, by decide, by decide⟩, zS B1 (tp.ko B1.k (by omega) (by omega)) (by omega) (by omega) (by omega) (by simp <;> omega) (fun g2 w2 B2 => okx ⟨⟨B2.x.tb.t, by decide, by decide⟩, zC B2 12 rfl (by decide) (ts := [62, 53, 42]) rfl (by omega) (by simp <;> omega) (fun g3 w3 B3 => okx ⟨⟨B3.x.tb.t, by decide, by decide⟩, zN B3 (by omega) (by omega) (by simp <;> omega) (fun g4 w4 B4 => okx ⟨⟨B4.x.tb.t, by decide, by decide⟩, zT B4 (by omega) (fun h2 t2 x2 k2 n2 e2 => okx ?_)⟩)⟩)⟩)⟩)⟩)⟩
    refine fin t2 x2 (by omega) k2 n2 ?_
    unfold tsB
    rw [if_neg z0, if_neg z1, if_neg z2, if_neg z3, if_pos z4]
    simp
  · refine ⟨⟨Or.inl (by omega), by decide, by decide⟩, ⟨by omega, by decide, by decide⟩, zB xc (by omega) (fun g0 B0 => okx ⟨⟨B0.x.tb.t, by decide, by decide⟩, zC B0 13 rfl (by decide) (ts := [110, 111, 116, 32, 102, 97, 110, 115, 32]) rfl (by omega) (by simp <;> omega) (fun g1 w1 B1 => okx ⟨⟨B1.x.tb.t, by decide, by decide⟩, zS B1 (tp.ko B1.k (by omega) (by omega)) (by omega) (by omega) (by omega) (by simp <;> omega) (fun g2 w2 B2 => okx ⟨⟨B2.x.tb.t, by decide, by decide⟩, zC B2 14 rfl (by decide) (ts := [62, 61]) rfl (by omega) (by simp <;> omega) (fun g3 w3 B3 => okx ⟨by decide, ⟨B3.x.tb.t, by decide, by decide⟩, zN B3 (by omega) (by omega) (by simp <;> omega) (fun g4 w4 B4 => okx ⟨⟨B4.x.tb.t, by decide, by decide⟩, zT B4 (by omega) (fun h2 t2 x2 k2 n2 e2 => okx ?_)⟩)⟩)⟩)⟩)⟩)⟩
    refine fin t2 x2 (by omega) k2 n2 ?_
    unfold tsB
    rw [if_neg z0, if_neg z1, if_neg z2, if_neg z3, if_neg z4, if_pos z5]
    simp
  · refine ⟨⟨Or.inl (by omega), by decide, by decide⟩, ⟨by omega, by decide, by decide⟩, zB xc (by omega) (fun g0 B0 => okx ⟨⟨B0.x.tb.t, by decide, by decide⟩, zC B0 15 rfl (by decide) (ts := [112, 117, 114, 115, 101, 32]) rfl (by omega) (by simp <;> omega) (fun g1 w1 B1 => okx ⟨⟨B1.x.tb.t, by decide, by decide⟩, zS B1 (tv.ko B1.k (by omega) (by omega)) (by omega) (by omega) (by omega) (by simp <;> omega) (fun g2 w2 B2 => okx ⟨⟨B2.x.tb.t, by decide, by decide⟩, zC B2 16 rfl (by decide) (ts := [62]) rfl (by omega) (by simp <;> omega) (fun g3 w3 B3 => okx ⟨⟨B3.x.tb.t, by decide, by decide⟩, zN B3 (by omega) (by omega) (by simp <;> omega) (fun g4 w4 B4 => okx ⟨⟨B4.x.tb.t, by decide, by decide⟩, zC B4 17 rfl (by decide) (ts := [32, 111, 114, 32, 112, 108, 101, 97, 115, 101, 100, 32]) rfl (by omega) (by simp <;> omega) (fun g5 w5 B5 => okx ⟨⟨B5.x.tb.t, by decide, by decide⟩, zS B5 (tv.ko B5.k (by omega) (by omega)) (by omega) (by omega) (by omega) (by simp <;> omega) (fun g6 w6 B6 => okx ⟨⟨B6.x.tb.t, by decide, by decide⟩, zC B6 14 rfl (by decide) (ts := [62, 61]) rfl (by omega) (by simp <;> omega) (fun g7 w7 B7 => okx ⟨by decide, ⟨B7.x.tb.t, by decide, by decide⟩, zN B7 (by omega) (by omega) (by simp <;> omega) (fun g8 w8 B8 => okx ⟨⟨B8.x.tb.t, by decide, by decide⟩, zT B8 (by omega) (fun h2 t2 x2 k2 n2 e2 => okx ?_)⟩)⟩)⟩)⟩)⟩)⟩)⟩)⟩)⟩)⟩
    refine fin t2 x2 (by omega) k2 n2 ?_
    unfold tsB
    rw [if_neg z0, if_neg z1, if_neg z2, if_neg z3, if_neg z4, if_neg z5, if_pos z6]
    simp
  · refine ⟨⟨Or.inl (by omega), by decide, by decide⟩, ⟨by omega, by decide, by decide⟩, zB xc (by omega) (fun g0 B0 => okx ⟨⟨B0.x.tb.t, by decide, by decide⟩, zC B0 18 rfl (by decide) (ts := [109, 105, 110, 40, 112, 111, 116, 44]) rfl (by omega) (by simp <;> omega) (fun g1 w1 B1 => okx ⟨⟨B1.x.tb.t, by decide, by decide⟩, zN B1 (by omega) (by omega) (by simp <;> omega) (fun g2 w2 B2 => okx ⟨⟨B2.x.tb.t, by decide, by decide⟩, zC B2 19 rfl (by decide) (ts := [41, 45, 121, 101, 97, 114, 60, 48, 32, 97, 110, 100, 32, 91, 121, 101, 97, 114, 62]) rfl (by omega) (by simp <;> omega) (fun g3 w3 B3 => okx ⟨⟨B3.x.tb.t, by decide, by decide⟩, zN B3 (by omega) (by omega) (by simp <;> omega) (fun g4 w4 B4 => okx ⟨⟨B4.x.tb.t, by decide, by decide⟩, zC B4 20 rfl (by decide) (ts := [32, 111, 114, 32, 110, 111, 116, 32, 98, 117, 105, 108, 116, 32]) rfl (by omega) (by simp <;> omega) (fun g5 w5 B5 => okx ⟨⟨B5.x.tb.t, by decide, by decide⟩, zS B5 (tp.ko B5.k (by omega) (by omega)) (by omega) (by omega) (by omega) (by simp <;> omega) (fun g6 w6 B6 => okx ⟨⟨B6.x.tb.t, by decide, by decide⟩, zC B6 21 rfl (by decide) (ts := [93]) rfl (by omega) (by simp <;> omega) (fun g7 w7 B7 => okx ⟨⟨B7.x.tb.t, by decide, by decide⟩, zT B7 (by omega) (fun h2 t2 x2 k2 n2 e2 => okx ?_)⟩)⟩)⟩)⟩)⟩)⟩)⟩)⟩)⟩
    refine fin t2 x2 (by omega) k2 n2 ?_
    unfold tsB
    rw [if_neg z0, if_neg z1, if_neg z2, if_neg z3, if_neg z4, if_neg z5, if_neg z6]
    simp
