/-! ===== the law: its cases ===== -/
section
variable {d : Nat} {i : Int} {h : AH} {pp ss : TT} {tt : Int → List Op} {tp : Int → Int} {tl er q dq r : Int} {y5 y6 y7 y8 : AV} {nc ns : Nat}
theorem L148 (hd : 100 ≤ d) (g : LI h pp ss tt tl tp er q dq r) (hi : 0 ≤ i ∧ i + 6 ≤ am_sl h ∧ i < 100000) (hc : nc + 200 ≤ 601024 ∧ ns + 2000 ≤ 7293034) (hy : ss 0 0 + 100 < 2000000000) (N : NX d i h (ss 0 0) nc ns) : WP (d + 1) 245 (148, [(4, 0), (2, 0), (2, 53), (2, 87), (0, i), y5, y6, y7, y8], [], h, nc, ns) am_K0 := by
  obtain ⟨d, rfl⟩ : ∃ e, d = e + 30 := ⟨d - 30, by omega⟩
  have gc := g.1
  have gtb := gc.tb
  obtain ⟨a1, e1⟩ : ∃ a, am_sx h (w32 (i + 1)) = a := ⟨_, rfl⟩
  obtain ⟨a2, e2⟩ : ∃ a, am_sx h (w32 (i + 2)) = a := ⟨_, rfl⟩
  obtain ⟨a3, e3⟩ : ∃ a, am_sx h (w32 (i + 3)) = a := ⟨_, rfl⟩
  obtain ⟨a4, e4⟩ : ∃ a, am_sx h (w32 (i + 4)) = a := ⟨_, rfl⟩
  obtain ⟨a5, e5⟩ : ∃ a, am_sx h (w32 (i + 5)) = a := ⟨_, rfl⟩
  refine v245_148 ⟨ix hi LW.rf 1 (by decide), ix hi LW.rf 2 (by decide), ix hi LW.rf 3 (by decide), ix hi LW.rf 4 (by decide), ix hi LW.rf 5 (by decide), ⟨by omega, by omega⟩, ?_⟩
  rw [e1, e2, e3, e4, e5]
  refine w227 gc.t0 ?_
  by_cases z1 : tl ≤ 1980
  · refine c102 gc (k0 := fun _ h2 f2 g2 => Or.inl ⟨rfl, o2 g f2, okx ?_⟩) (k1 := fun y => (by omega : False).elim)
    obtain ⟨A, out⟩ := LAw (v := tl + 20) (LAx g f2 (by decide) (by decide) g2)
    generalize am_w h2 87 0 (tl + 20) = h3 at A out ⊢
    have L3 := A.2.2.2.2
    rw [L3.2 (w32 (i + 1)), e1, L3.2 (w32 (i + 2)), e2, L3.2 (w32 (i + 3)), e3, L3.2 (w32 (i + 4)), e4, L3.2 (w32 (i + 5)), e5]
    refine ⟨ix hi L3 1 (by decide), ix hi L3 2 (by decide), ix hi L3 3 (by decide), ix hi L3 4 (by decide), ix hi L3 5 (by decide), ⟨A.2.1.c.M.t, by omega, by omega⟩, c199 A.2.1 (k0 := fun _ h6 f6 g6 => ?_) (k1 := fun y => (by omega : False).elim)⟩
    obtain ⟨B, L6, e0, e87⟩ := A.mod f6 g6 (t5_rg g.2.2.2.2 gtb.1)
    exact fin0 B.2.1.c.M.t e0 B.2.2.2.1 (e87.trans out) (N _ _ _ _ _ _ _ _ _ _ _ _ _ _ _ _ B L6 (by omega) (by omega) (by omega))
  · refine c102 gc (k0 := fun y => (by omega : False).elim) (k1 := fun _ h2 f2 g2 => Or.inr ⟨rfl, okx ?_⟩)
    have A := LAx g f2 (by decide) (by decide) g2
    generalize h2 = h3 at A ⊢
    have L3 := A.2.2.2.2
    rw [L3.2 (w32 (i + 1)), e1, L3.2 (w32 (i + 2)), e2, L3.2 (w32 (i + 3)), e3, L3.2 (w32 (i + 4)), e4, L3.2 (w32 (i + 5)), e5]
    refine ⟨ix hi L3 1 (by decide), ix hi L3 2 (by decide), ix hi L3 3 (by decide), ix hi L3 4 (by decide), ix hi L3 5 (by decide), ⟨A.2.1.c.M.t, by omega, by omega⟩, c199 A.2.1 (k0 := fun y => (by omega : False).elim) (k1 := fun _ h6 f6 g6 => ?_)⟩
    obtain ⟨B, L6, e0, e87⟩ := A.mod f6 g6 (g.2.2.2.2)
    exact fin1 (by decide) B.2.1.c.M.t e0 (N _ _ _ _ _ _ _ _ _ _ _ _ _ _ _ _ B L6 (by omega) (by omega) (by omega))
theorem L252 (hd : 100 ≤ d) (g : LI h pp ss tt tl tp er q dq r) (hi : 0 ≤ i ∧ i + 6 ≤ am_sl h ∧ i < 100000) (hc : nc + 200 ≤ 601024 ∧ ns + 2000 ≤ 7293034) (hy : ss 0 0 + 100 < 2000000000) (N : NX d i h (ss 0 0) nc ns) : WP (d + 1) 245 (252, [(4, 0), (2, 0), (2, 53), (2, 87), (0, i), y5, y6, y7, y8], [], h, nc, ns) am_K0 := by
  obtain ⟨d, rfl⟩ : ∃ e, d = e + 30 := ⟨d - 30, by omega⟩
  have gc := g.1
  have gtb := gc.tb
  obtain ⟨a1, e1⟩ : ∃ a, am_sx h (w32 (i + 1)) = a := ⟨_, rfl⟩
  refine v245_252 ⟨ix hi LW.rf 1 (by decide), ⟨by omega, by omega⟩, ?_⟩
  rw [e1]
  refine w228 gc.t0 ?_
  by_cases z1 : 0 ≤ a1 ∧ a1 ≤ tl
  · refine c104 gc (k0 := fun _ h2 f2 g2 => Or.inl ⟨rfl, o2 g f2, okx ?_⟩) (k2 := fun y => (by omega : False).elim)
    obtain ⟨A, out⟩ := LAw (v := a1) (LAx g f2 (by decide) (by decide) g2)
    generalize am_w h2 87 0 (a1) = h3 at A out ⊢
    have L3 := A.2.2.2.2
    rw [L3.2 (w32 (i + 1)), e1]
    refine ⟨ix hi L3 1 (by decide), A.2.1.c.M.t, c200 A.2.1 (k0 := fun _ h6 f6 g6 => ?_) (k1 := fun y => (by omega : False).elim)⟩
    obtain ⟨B, L6, e0, e87⟩ := A.mod f6 g6 (fun j j0 j1 => g.2.2.2.2 j j0 (by omega))
    exact fin0 B.2.1.c.M.t e0 B.2.2.2.1 (e87.trans out) (N _ _ _ _ _ _ _ _ _ _ _ _ _ _ _ _ B L6 (by omega) (by omega) (by omega))
  · refine c104 gc (k0 := fun y => (by omega : False).elim) (k2 := fun _ h2 f2 g2 => Or.inr ⟨rfl, okx ?_⟩)
    have A := LAx g f2 (by decide) (by decide) g2
    generalize h2 = h3 at A ⊢
    have L3 := A.2.2.2.2
    rw [L3.2 (w32 (i + 1)), e1]
    refine ⟨ix hi L3 1 (by decide), A.2.1.c.M.t, c200 A.2.1 (k0 := fun y => (by omega : False).elim) (k1 := fun _ h6 f6 g6 => ?_)⟩
    obtain ⟨B, L6, e0, e87⟩ := A.mod f6 g6 (g.2.2.2.2)
    exact fin1 (by decide) B.2.1.c.M.t e0 (N _ _ _ _ _ _ _ _ _ _ _ _ _ _ _ _ B L6 (by omega) (by omega) (by omega))
theorem L334 (hd : 100 ≤ d) (g : LI h pp ss tt tl tp er q dq r) (hi : 0 ≤ i ∧ i + 6 ≤ am_sl h ∧ i < 100000) (hc : nc + 200 ≤ 601024 ∧ ns + 2000 ≤ 7293034) (hy : ss 0 0 + 100 < 2000000000) (N : NX d i h (ss 0 0) nc ns) : WP (d + 1) 245 (334, [(4, 0), (2, 0), (2, 53), (2, 87), (0, i), y5, y6, y7, y8], [], h, nc, ns) am_K0 := by
  obtain ⟨d, rfl⟩ : ∃ e, d = e + 30 := ⟨d - 30, by omega⟩
  have gc := g.1
  have gtb := gc.tb
  obtain ⟨a1, e1⟩ : ∃ a, am_sx h (w32 (i + 1)) = a := ⟨_, rfl⟩
  refine v245_334 ⟨ix hi LW.rf 1 (by decide), ⟨by omega, by omega⟩, ?_⟩
  rw [e1]
  refine w229 gc.t0 ?_
  by_cases z1 : 0 ≤ a1 ∧ a1 ≤ 11
  · have f2 : Fr 35 18 h h := Fr.rf
    refine c107 gc (k0 := fun _ => Or.inl ⟨rfl, o2 g f2, okx ?_⟩) (k3 := fun y => (by omega : False).elim)
    obtain ⟨A, out⟩ := LAw (v := s_ct pp ss tl a1) (LAx g f2 (by decide) (by decide) gc)
    generalize am_w h 87 0 (s_ct pp ss tl a1) = h3 at A out ⊢
    have L3 := A.2.2.2.2
    rw [L3.2 (w32 (i + 1)), e1]
    refine ⟨ix hi L3 1 (by decide), ⟨A.2.1.c.M.t, by omega, by omega⟩, c204 A.2.1 (k0 := fun _ h6 f6 g6 => ?_) (k1 := fun y => (by omega : False).elim)⟩
    obtain ⟨B, L6, e0, e87⟩ := A.mod f6 g6 (g.2.2.2.2)
    exact fin0 B.2.1.c.M.t e0 B.2.2.2.1 (e87.trans out) (N _ _ _ _ _ _ _ _ _ _ _ _ _ _ _ _ B L6 (by omega) (by omega) (by omega))
  · refine c107 gc (k0 := fun y => (by omega : False).elim) (k3 := fun _ h2 f2 g2 => Or.inr ⟨rfl, okx ?_⟩)
    have A := LAx g f2 (by decide) (by decide) g2
    generalize h2 = h3 at A ⊢
    have L3 := A.2.2.2.2
    rw [L3.2 (w32 (i + 1)), e1]
    refine ⟨ix hi L3 1 (by decide), ⟨A.2.1.c.M.t, by omega, by omega⟩, c204 A.2.1 (k0 := fun y => (by omega : False).elim) (k1 := fun _ h6 f6 g6 => ?_)⟩
    obtain ⟨B, L6, e0, e87⟩ := A.mod f6 g6 (g.2.2.2.2)
    exact fin1 (by decide) B.2.1.c.M.t e0 (N _ _ _ _ _ _ _ _ _ _ _ _ _ _ _ _ B L6 (by omega) (by omega) (by omega))
theorem L390 (hd : 100 ≤ d) (g : LI h pp ss tt tl tp er q dq r) (hi : 0 ≤ i ∧ i + 6 ≤ am_sl h ∧ i < 100000) (hc : nc + 200 ≤ 601024 ∧ ns + 2000 ≤ 7293034) (hy : ss 0 0 + 100 < 2000000000) (N : NX d i h (ss 0 0) nc ns) : WP (d + 1) 245 (390, [(4, 0), (2, 0), (2, 53), (2, 87), (0, i), y5, y6, y7, y8], [], h, nc, ns) am_K0 := by
  obtain ⟨d, rfl⟩ : ∃ e, d = e + 30 := ⟨d - 30, by omega⟩
  have gc := g.1
  have gtb := gc.tb
  obtain ⟨a1, e1⟩ : ∃ a, am_sx h (w32 (i + 1)) = a := ⟨_, rfl⟩
  obtain ⟨a2, e2⟩ : ∃ a, am_sx h (w32 (i + 2)) = a := ⟨_, rfl⟩
  refine v245_390 ⟨ix hi LW.rf 1 (by decide), ix hi LW.rf 2 (by decide), ⟨by omega, by omega⟩, ?_⟩
  rw [e1, e2]
  refine w230 gc.t0 ?_
  by_cases z1 : (0 ≤ a1 ∧ a1 < pp 0 0) ∧ 0 ≤ a2 ∧ a2 ≤ 3
  · have f2 : Fr 35 18 h h := Fr.rf
    refine c109 gc (k0 := fun _ => Or.inl ⟨rfl, o2 g f2, okx ?_⟩) (k3 := fun y => (by omega : False).elim)
    obtain ⟨A, out⟩ := LAw (v := s_ow pp ss a1 a2) (LAx g f2 (by decide) (by decide) gc)
    generalize am_w h 87 0 (s_ow pp ss a1 a2) = h3 at A out ⊢
    have L3 := A.2.2.2.2
    rw [L3.2 (w32 (i + 1)), e1, L3.2 (w32 (i + 2)), e2]
    refine ⟨ix hi L3 1 (by decide), ix hi L3 2 (by decide), A.2.1.c.M.t, c206 A.2.1 (k0 := fun _ h6 f6 g6 => ?_) (k1 := fun y => (by omega : False).elim)⟩
    obtain ⟨B, L6, e0, e87⟩ := A.mod f6 g6 (g.2.2.2.2)
    exact fin0 B.2.1.c.M.t e0 B.2.2.2.1 (e87.trans out) (N _ _ _ _ _ _ _ _ _ _ _ _ _ _ _ _ B L6 (by omega) (by omega) (by omega))
  · refine c109 gc (k0 := fun y => (by omega : False).elim) (k3 := fun _ h2 f2 g2 => Or.inr ⟨rfl, okx ?_⟩)
    have A := LAx g f2 (by decide) (by decide) g2
    generalize h2 = h3 at A ⊢
    have L3 := A.2.2.2.2
    rw [L3.2 (w32 (i + 1)), e1, L3.2 (w32 (i + 2)), e2]
    refine ⟨ix hi L3 1 (by decide), ix hi L3 2 (by decide), A.2.1.c.M.t, c206 A.2.1 (k0 := fun y => (by omega : False).elim) (k1 := fun _ h6 f6 g6 => ?_)⟩
    obtain ⟨B, L6, e0, e87⟩ := A.mod f6 g6 (g.2.2.2.2)
    exact fin1 (by decide) B.2.1.c.M.t e0 (N _ _ _ _ _ _ _ _ _ _ _ _ _ _ _ _ B L6 (by omega) (by omega) (by omega))
theorem L458 (hd : 100 ≤ d) (g : LI h pp ss tt tl tp er q dq r) (hi : 0 ≤ i ∧ i + 6 ≤ am_sl h ∧ i < 100000) (hc : nc + 200 ≤ 601024 ∧ ns + 2000 ≤ 7293034) (hy : ss 0 0 + 100 < 2000000000) (N : NX d i h (ss 0 0) nc ns) : WP (d + 1) 245 (458, [(4, 0), (2, 0), (2, 53), (2, 87), (0, i), y5, y6, y7, y8], [], h, nc, ns) am_K0 := by
  obtain ⟨d, rfl⟩ : ∃ e, d = e + 30 := ⟨d - 30, by omega⟩
  have gc := g.1
  have gtb := gc.tb
  obtain ⟨a1, e1⟩ : ∃ a, am_sx h (w32 (i + 1)) = a := ⟨_, rfl⟩
  obtain ⟨a2, e2⟩ : ∃ a, am_sx h (w32 (i + 2)) = a := ⟨_, rfl⟩
  refine v245_458 ⟨ix hi LW.rf 1 (by decide), ix hi LW.rf 2 (by decide), ⟨by omega, by omega⟩, ?_⟩
  rw [e1, e2]
  refine w231 gc.t0 ?_
  by_cases z1 : (0 ≤ a1 ∧ a1 < pp 1 0) ∧ 0 ≤ a2 ∧ a2 ≤ 7
  · refine c110 gc (k0 := fun _ h2 f2 g2 => Or.inl ⟨rfl, o2 g f2, okx ?_⟩) (k3 := fun y => (by omega : False).elim)
    obtain ⟨A, out⟩ := LAw (v := s_op pp ss tt a1 a2) (LAx g f2 (by decide) (by decide) g2)
    generalize am_w h2 87 0 (s_op pp ss tt a1 a2) = h3 at A out ⊢
    have L3 := A.2.2.2.2
    rw [L3.2 (w32 (i + 1)), e1, L3.2 (w32 (i + 2)), e2]
    refine ⟨ix hi L3 1 (by decide), ix hi L3 2 (by decide), ⟨A.2.1.c.M.t, by omega, by omega⟩, c208 A.2.1 (k0 := fun _ h6 f6 g6 => ?_) (k1 := fun y => (by omega : False).elim)⟩
    obtain ⟨B, L6, e0, e87⟩ := A.mod f6 g6 (g.2.2.2.2)
    exact fin0 B.2.1.c.M.t e0 B.2.2.2.1 (e87.trans out) (N _ _ _ _ _ _ _ _ _ _ _ _ _ _ _ _ B L6 (by omega) (by omega) (by omega))
  · refine c110 gc (k0 := fun y => (by omega : False).elim) (k3 := fun _ h2 f2 g2 => Or.inr ⟨rfl, okx ?_⟩)
    have A := LAx g f2 (by decide) (by decide) g2
    generalize h2 = h3 at A ⊢
    have L3 := A.2.2.2.2
    rw [L3.2 (w32 (i + 1)), e1, L3.2 (w32 (i + 2)), e2]
    refine ⟨ix hi L3 1 (by decide), ix hi L3 2 (by decide), ⟨A.2.1.c.M.t, by omega, by omega⟩, c208 A.2.1 (k0 := fun y => (by omega : False).elim) (k1 := fun _ h6 f6 g6 => ?_)⟩
    obtain ⟨B, L6, e0, e87⟩ := A.mod f6 g6 (g.2.2.2.2)
    exact fin1 (by decide) B.2.1.c.M.t e0 (N _ _ _ _ _ _ _ _ _ _ _ _ _ _ _ _ B L6 (by omega) (by omega) (by omega))
theorem L526 (hd : 100 ≤ d) (g : LI h pp ss tt tl tp er q dq r) (hi : 0 ≤ i ∧ i + 6 ≤ am_sl h ∧ i < 100000) (hc : nc + 200 ≤ 601024 ∧ ns + 2000 ≤ 7293034) (hy : ss 0 0 + 100 < 2000000000) (N : NX d i h (ss 0 0) nc ns) : WP (d + 1) 245 (526, [(4, 0), (2, 0), (2, 53), (2, 87), (0, i), y5, y6, y7, y8], [], h, nc, ns) am_K0 := by
  obtain ⟨d, rfl⟩ : ∃ e, d = e + 30 := ⟨d - 30, by omega⟩
  have gc := g.1
  have gtb := gc.tb
  obtain ⟨a1, e1⟩ : ∃ a, am_sx h (w32 (i + 1)) = a := ⟨_, rfl⟩
  refine v245_526 ⟨ix hi LW.rf 1 (by decide), ⟨by omega, by omega⟩, ?_⟩
  rw [e1]
  refine w232 gc.t0 ?_
  by_cases z1 : 0 ≤ a1 ∧ a1 < pp 1 0
  · have f2 : Fr 35 18 h h := Fr.rf
    refine c111 gc (k0 := fun _ => Or.inl ⟨rfl, o2 g f2, okx ?_⟩) (k3 := fun y => (by omega : False).elim)
    obtain ⟨A, out⟩ := LAw (v := s_sh pp ss a1) (LAx g f2 (by decide) (by decide) gc)
    generalize am_w h 87 0 (s_sh pp ss a1) = h3 at A out ⊢
    have L3 := A.2.2.2.2
    rw [L3.2 (w32 (i + 1)), e1]
    refine ⟨ix hi L3 1 (by decide), A.2.1.c.M.t, c209 A.2.1 (k0 := fun _ h6 f6 g6 => ?_) (k1 := fun y => (by omega : False).elim)⟩
    obtain ⟨B, L6, e0, e87⟩ := A.mod f6 g6 (g.2.2.2.2)
    exact fin0 B.2.1.c.M.t e0 B.2.2.2.1 (e87.trans out) (N _ _ _ _ _ _ _ _ _ _ _ _ _ _ _ _ B L6 (by omega) (by omega) (by omega))
  · refine c111 gc (k0 := fun y => (by omega : False).elim) (k3 := fun _ h2 f2 g2 => Or.inr ⟨rfl, okx ?_⟩)
    have A := LAx g f2 (by decide) (by decide) g2
    generalize h2 = h3 at A ⊢
    have L3 := A.2.2.2.2
    rw [L3.2 (w32 (i + 1)), e1]
    refine ⟨ix hi L3 1 (by decide), A.2.1.c.M.t, c209 A.2.1 (k0 := fun y => (by omega : False).elim) (k1 := fun _ h6 f6 g6 => ?_)⟩
    obtain ⟨B, L6, e0, e87⟩ := A.mod f6 g6 (g.2.2.2.2)
    exact fin1 (by decide) B.2.1.c.M.t e0 (N _ _ _ _ _ _ _ _ _ _ _ _ _ _ _ _ B L6 (by omega) (by omega) (by omega))
theorem L582 (hd : 100 ≤ d) (g : LI h pp ss tt tl tp er q dq r) (hi : 0 ≤ i ∧ i + 6 ≤ am_sl h ∧ i < 100000) (hc : nc + 200 ≤ 601024 ∧ ns + 2000 ≤ 7293034) (hy : ss 0 0 + 100 < 2000000000) (N : NX d i h (ss 0 0) nc ns) : WP (d + 1) 245 (582, [(4, 0), (2, 0), (2, 53), (2, 87), (0, i), y5, y6, y7, y8], [], h, nc, ns) am_K0 := by
  obtain ⟨d, rfl⟩ : ∃ e, d = e + 30 := ⟨d - 30, by omega⟩
  have gc := g.1
  have gtb := gc.tb
  obtain ⟨a1, e1⟩ : ∃ a, am_sx h (w32 (i + 1)) = a := ⟨_, rfl⟩
  obtain ⟨a2, e2⟩ : ∃ a, am_sx h (w32 (i + 2)) = a := ⟨_, rfl⟩
  refine v245_582 ⟨ix hi LW.rf 1 (by decide), ix hi LW.rf 2 (by decide), ⟨by omega, by omega⟩, ?_⟩
  rw [e1, e2]
  refine w233 gc.t0 ?_
  by_cases z1 : (0 ≤ a1 ∧ a1 < pp 2 0) ∧ 0 ≤ a2 ∧ a2 ≤ 3
  · have f2 : Fr 35 18 h h := Fr.rf
    refine c112 gc (k0 := fun _ => Or.inl ⟨rfl, o2 g f2, okx ?_⟩) (k3 := fun y => (by omega : False).elim)
    obtain ⟨A, out⟩ := LAw (v := s_ov pp ss a1 a2) (LAx g f2 (by decide) (by decide) gc)
    generalize am_w h 87 0 (s_ov pp ss a1 a2) = h3 at A out ⊢
    have L3 := A.2.2.2.2
    rw [L3.2 (w32 (i + 1)), e1, L3.2 (w32 (i + 2)), e2]
    refine ⟨ix hi L3 1 (by decide), ix hi L3 2 (by decide), A.2.1.c.M.t, c211 A.2.1 (k0 := fun _ h6 f6 g6 => ?_) (k1 := fun y => (by omega : False).elim)⟩
    obtain ⟨B, L6, e0, e87⟩ := A.mod f6 g6 (g.2.2.2.2)
    exact fin0 B.2.1.c.M.t e0 B.2.2.2.1 (e87.trans out) (N _ _ _ _ _ _ _ _ _ _ _ _ _ _ _ _ B L6 (by omega) (by omega) (by omega))
  · refine c112 gc (k0 := fun y => (by omega : False).elim) (k3 := fun _ h2 f2 g2 => Or.inr ⟨rfl, okx ?_⟩)
    have A := LAx g f2 (by decide) (by decide) g2
    generalize h2 = h3 at A ⊢
    have L3 := A.2.2.2.2
    rw [L3.2 (w32 (i + 1)), e1, L3.2 (w32 (i + 2)), e2]
    refine ⟨ix hi L3 1 (by decide), ix hi L3 2 (by decide), A.2.1.c.M.t, c211 A.2.1 (k0 := fun y => (by omega : False).elim) (k1 := fun _ h6 f6 g6 => ?_)⟩
    obtain ⟨B, L6, e0, e87⟩ := A.mod f6 g6 (g.2.2.2.2)
    exact fin1 (by decide) B.2.1.c.M.t e0 (N _ _ _ _ _ _ _ _ _ _ _ _ _ _ _ _ B L6 (by omega) (by omega) (by omega))
theorem L650 (hd : 100 ≤ d) (g : LI h pp ss tt tl tp er q dq r) (hi : 0 ≤ i ∧ i + 6 ≤ am_sl h ∧ i < 100000) (hc : nc + 200 ≤ 601024 ∧ ns + 2000 ≤ 7293034) (hy : ss 0 0 + 100 < 2000000000) (N : NX d i h (ss 0 0) nc ns) : WP (d + 1) 245 (650, [(4, 0), (2, 0), (2, 53), (2, 87), (0, i), y5, y6, y7, y8], [], h, nc, ns) am_K0 := by
  obtain ⟨d, rfl⟩ : ∃ e, d = e + 30 := ⟨d - 30, by omega⟩
  have gc := g.1
  have gtb := gc.tb
  obtain ⟨a1, e1⟩ : ∃ a, am_sx h (w32 (i + 1)) = a := ⟨_, rfl⟩
  obtain ⟨a2, e2⟩ : ∃ a, am_sx h (w32 (i + 2)) = a := ⟨_, rfl⟩
  refine v245_650 ⟨ix hi LW.rf 1 (by decide), ix hi LW.rf 2 (by decide), ⟨by omega, by omega⟩, ?_⟩
  rw [e1, e2]
  refine w234 gc.t0 ?_
  by_cases z1 : (0 ≤ a1 ∧ a1 < pp 2 0) ∧ 0 ≤ a2 ∧ a2 < pp 1 0
  · have f2 : Fr 35 18 h h := Fr.rf
    refine c113 gc (k0 := fun _ => Or.inl ⟨rfl, o2 g f2, gc.c.S.fan _, okx ?_⟩) (k3 := fun y => (by omega : False).elim)
    obtain ⟨A, out⟩ := LAw (v := ss 9 (12 * a1 + a2)) (LAx g f2 (by decide) (by decide) gc)
    generalize am_w h 87 0 (ss 9 (12 * a1 + a2)) = h3 at A out ⊢
    have L3 := A.2.2.2.2
    rw [L3.2 (w32 (i + 1)), e1, L3.2 (w32 (i + 2)), e2]
    refine ⟨ix hi L3 1 (by decide), ix hi L3 2 (by decide), A.2.1.c.M.t, c212 A.2.1 (k0 := fun _ h6 f6 g6 => ?_) (k1 := fun y => (by omega : False).elim)⟩
    obtain ⟨B, L6, e0, e87⟩ := A.mod f6 g6 (g.2.2.2.2)
    exact fin0b B.2.1.c.M.t e0 B.2.2.2.1 (e87.trans out) (gc.c.S.fan _) (N _ _ _ _ _ _ _ _ _ _ _ _ _ _ _ _ B L6 (by omega) (by omega) (by omega))
  · refine c113 gc (k0 := fun y => (by omega : False).elim) (k3 := fun _ h2 f2 g2 => Or.inr ⟨rfl, okx ?_⟩)
    have A := LAx g f2 (by decide) (by decide) g2
    generalize h2 = h3 at A ⊢
    have L3 := A.2.2.2.2
    rw [L3.2 (w32 (i + 1)), e1, L3.2 (w32 (i + 2)), e2]
    refine ⟨ix hi L3 1 (by decide), ix hi L3 2 (by decide), A.2.1.c.M.t, c212 A.2.1 (k0 := fun y => (by omega : False).elim) (k1 := fun _ h6 f6 g6 => ?_)⟩
    obtain ⟨B, L6, e0, e87⟩ := A.mod f6 g6 (g.2.2.2.2)
    exact fin1 (by decide) B.2.1.c.M.t e0 (N _ _ _ _ _ _ _ _ _ _ _ _ _ _ _ _ B L6 (by omega) (by omega) (by omega))
theorem L725 (hd : 100 ≤ d) (g : LI h pp ss tt tl tp er q dq r) (hi : 0 ≤ i ∧ i + 6 ≤ am_sl h ∧ i < 100000) (hc : nc + 200 ≤ 601024 ∧ ns + 2000 ≤ 7293034) (hy : ss 0 0 + 100 < 2000000000) (N : NX d i h (ss 0 0) nc ns) : WP (d + 1) 245 (725, [(4, 0), (2, 0), (2, 53), (2, 87), (0, i), y5, y6, y7, y8], [], h, nc, ns) am_K0 := by
  obtain ⟨d, rfl⟩ : ∃ e, d = e + 30 := ⟨d - 30, by omega⟩
  have gc := g.1
  have gtb := gc.tb
  obtain ⟨a1, e1⟩ : ∃ a, am_sx h (w32 (i + 1)) = a := ⟨_, rfl⟩
  obtain ⟨a2, e2⟩ : ∃ a, am_sx h (w32 (i + 2)) = a := ⟨_, rfl⟩
  refine v245_725 ⟨ix hi LW.rf 1 (by decide), ix hi LW.rf 2 (by decide), ⟨by omega, by omega⟩, ?_⟩
  rw [e1, e2]
  refine w235 gc.t0 ?_
  by_cases z1 : (0 ≤ a1 ∧ a1 < pp 2 0) ∧ 0 ≤ a2 ∧ a2 < pp 2 0
  · have f2 : Fr 35 18 h h := Fr.rf
    refine c114 gc (k0 := fun _ => Or.inl ⟨rfl, o2 g f2, okx ?_⟩) (k3 := fun y => (by omega : False).elim)
    obtain ⟨A, out⟩ := LAw (v := w32 (s_pl pp ss a2 - s_pl pp ss a1)) (LAx g f2 (by decide) (by decide) gc)
    generalize am_w h 87 0 (w32 (s_pl pp ss a2 - s_pl pp ss a1)) = h3 at A out ⊢
    have L3 := A.2.2.2.2
    rw [L3.2 (w32 (i + 1)), e1, L3.2 (w32 (i + 2)), e2]
    refine ⟨ix hi L3 1 (by decide), ix hi L3 2 (by decide), A.2.1.c.M.t, c213 A.2.1 (k0 := fun _ h6 f6 g6 => ?_) (k1 := fun y => (by omega : False).elim)⟩
    obtain ⟨B, L6, e0, e87⟩ := A.mod f6 g6 (g.2.2.2.2)
    exact fin0 B.2.1.c.M.t e0 B.2.2.2.1 (e87.trans out) (N _ _ _ _ _ _ _ _ _ _ _ _ _ _ _ _ B L6 (by omega) (by omega) (by omega))
  · refine c114 gc (k0 := fun y => (by omega : False).elim) (k3 := fun _ h2 f2 g2 => Or.inr ⟨rfl, okx ?_⟩)
    have A := LAx g f2 (by decide) (by decide) g2
    generalize h2 = h3 at A ⊢
    have L3 := A.2.2.2.2
    rw [L3.2 (w32 (i + 1)), e1, L3.2 (w32 (i + 2)), e2]
    refine ⟨ix hi L3 1 (by decide), ix hi L3 2 (by decide), A.2.1.c.M.t, c213 A.2.1 (k0 := fun y => (by omega : False).elim) (k1 := fun _ h6 f6 g6 => ?_)⟩
    obtain ⟨B, L6, e0, e87⟩ := A.mod f6 g6 (g.2.2.2.2)
    exact fin1 (by decide) B.2.1.c.M.t e0 (N _ _ _ _ _ _ _ _ _ _ _ _ _ _ _ _ B L6 (by omega) (by omega) (by omega))
theorem L909 (hd : 100 ≤ d) (g : LI h pp ss tt tl tp er q dq r) (hi : 0 ≤ i ∧ i + 6 ≤ am_sl h ∧ i < 100000) (hc : nc + 200 ≤ 601024 ∧ ns + 2000 ≤ 7293034) (hy : ss 0 0 + 100 < 2000000000) (N : NX d i h (ss 0 0) nc ns) : WP (d + 1) 245 (909, [(4, 0), (2, 0), (2, 53), (2, 87), (0, i), y5, y6, y7, y8], [], h, nc, ns) am_K0 := by
  obtain ⟨d, rfl⟩ : ∃ e, d = e + 30 := ⟨d - 30, by omega⟩
  have gc := g.1
  have gtb := gc.tb
  obtain ⟨a1, e1⟩ : ∃ a, am_sx h (w32 (i + 1)) = a := ⟨_, rfl⟩
  obtain ⟨a2, e2⟩ : ∃ a, am_sx h (w32 (i + 2)) = a := ⟨_, rfl⟩
  refine v245_909 ⟨ix hi LW.rf 1 (by decide), ix hi LW.rf 2 (by decide), ⟨by omega, by omega⟩, ?_⟩
  rw [e1, e2]
  refine w237 gc.t0 ?_
  by_cases z1 : 0 ≤ a1 ∧ a1 < pp 2 0
  · by_cases z2 : 1 ≤ a2 ∧ a2 ≤ 999
    · refine c117 gc (k0 := fun _ h2 f2 g2 => Or.inl ⟨rfl, o2 g f2, okx ?_⟩) (k2 := fun y => (by omega : False).elim) (k3 := fun y => (by omega : False).elim)
      obtain ⟨A, out⟩ := LAw (v := min 9999 (ss 4 a1 + a2)) (LAx g f2 (by decide) (by decide) g2)
      generalize am_w h2 87 0 (min 9999 (ss 4 a1 + a2)) = h3 at A out ⊢
      have L3 := A.2.2.2.2
      rw [L3.2 (w32 (i + 1)), e1, L3.2 (w32 (i + 2)), e2]
      refine ⟨ix hi L3 1 (by decide), ix hi L3 2 (by decide), A.2.1.c.M.t, c217 A.2.1 (k0 := fun _ h6 f6 g6 => ?_) (k2 := fun y => (by omega : False).elim) (k1 := fun y => (by omega : False).elim)⟩
      obtain ⟨B, L6, e0, e87⟩ := A.mod f6 g6 (g.2.2.2.2)
      exact fin0 B.2.1.c.M.t e0 B.2.2.2.1 (e87.trans out) (N _ _ _ _ _ _ _ _ _ _ _ _ _ _ _ _ B L6 (by rw [su_ne (fun y => absurd y.1 (by decide))]; omega) (by omega) (by omega))
    · refine c117 gc (k0 := fun y => (by omega : False).elim) (k2 := fun _ h2 f2 g2 => Or.inr (Or.inr ⟨rfl, okx ?_⟩)) (k3 := fun y => (by omega : False).elim)
      have A := LAx g f2 (by decide) (by decide) g2
      generalize h2 = h3 at A ⊢
      have L3 := A.2.2.2.2
      rw [L3.2 (w32 (i + 1)), e1, L3.2 (w32 (i + 2)), e2]
      refine ⟨ix hi L3 1 (by decide), ix hi L3 2 (by decide), A.2.1.c.M.t, c217 A.2.1 (k0 := fun y => (by omega : False).elim) (k2 := fun _ h6 f6 g6 => ?_) (k1 := fun y => (by omega : False).elim)⟩
      obtain ⟨B, L6, e0, e87⟩ := A.mod f6 g6 (g.2.2.2.2)
      exact fin1 (by decide) B.2.1.c.M.t e0 (N _ _ _ _ _ _ _ _ _ _ _ _ _ _ _ _ B L6 (by omega) (by omega) (by omega))
  · refine c117 gc (k0 := fun y => (by omega : False).elim) (k2 := fun y => (by omega : False).elim) (k3 := fun _ h2 f2 g2 => Or.inr (Or.inl ⟨rfl, okx ?_⟩))
    have A := LAx g f2 (by decide) (by decide) g2
    generalize h2 = h3 at A ⊢
    have L3 := A.2.2.2.2
    rw [L3.2 (w32 (i + 1)), e1, L3.2 (w32 (i + 2)), e2]
    refine ⟨ix hi L3 1 (by decide), ix hi L3 2 (by decide), A.2.1.c.M.t, c217 A.2.1 (k0 := fun y => (by omega : False).elim) (k2 := fun y => (by omega : False).elim) (k1 := fun _ h6 f6 g6 => ?_)⟩
    obtain ⟨B, L6, e0, e87⟩ := A.mod f6 g6 (g.2.2.2.2)
    exact fin1 (by decide) B.2.1.c.M.t e0 (N _ _ _ _ _ _ _ _ _ _ _ _ _ _ _ _ B L6 (by omega) (by omega) (by omega))
theorem L977 (hd : 100 ≤ d) (g : LI h pp ss tt tl tp er q dq r) (hi : 0 ≤ i ∧ i + 6 ≤ am_sl h ∧ i < 100000) (hc : nc + 200 ≤ 601024 ∧ ns + 2000 ≤ 7293034) (hy : ss 0 0 + 100 < 2000000000) (N : NX d i h (ss 0 0) nc ns) : WP (d + 1) 245 (977, [(4, 0), (2, 0), (2, 53), (2, 87), (0, i), y5, y6, y7, y8], [], h, nc, ns) am_K0 := by
  obtain ⟨d, rfl⟩ : ∃ e, d = e + 30 := ⟨d - 30, by omega⟩
  have gc := g.1
  have gtb := gc.tb
  obtain ⟨a1, e1⟩ : ∃ a, am_sx h (w32 (i + 1)) = a := ⟨_, rfl⟩
  refine v245_977 ⟨ix hi LW.rf 1 (by decide), ⟨by omega, by omega⟩, ?_⟩
  rw [e1]
  refine w238 gc.t0 ?_
  by_cases z1 : 0 ≤ a1 ∧ a1 ≤ 9999
  · refine c118 gc (k0 := fun _ h2 f2 g2 => Or.inl ⟨rfl, o2 g f2, okx ?_⟩) (k2 := fun y => (by omega : False).elim)
    obtain ⟨A, out⟩ := LAw (v := ss 1 0) (LAx g f2 (by decide) (by decide) g2)
    generalize am_w h2 87 0 (ss 1 0) = h3 at A out ⊢
    have L3 := A.2.2.2.2
    rw [L3.2 (w32 (i + 1)), e1]
    refine ⟨ix hi L3 1 (by decide), A.2.1.c.M.t, c218 A.2.1 (k0 := fun _ h6 f6 g6 => ?_) (k1 := fun y => (by omega : False).elim)⟩
    obtain ⟨B, L6, e0, e87⟩ := A.mod f6 g6 (g.2.2.2.2)
    exact fin0 B.2.1.c.M.t e0 B.2.2.2.1 (e87.trans out) (N _ _ _ _ _ _ _ _ _ _ _ _ _ _ _ _ B L6 (by rw [su_ne (fun y => absurd y.1 (by decide))]; omega) (by omega) (by omega))
  · refine c118 gc (k0 := fun y => (by omega : False).elim) (k2 := fun _ h2 f2 g2 => Or.inr ⟨rfl, okx ?_⟩)
    have A := LAx g f2 (by decide) (by decide) g2
    generalize h2 = h3 at A ⊢
    have L3 := A.2.2.2.2
    rw [L3.2 (w32 (i + 1)), e1]
    refine ⟨ix hi L3 1 (by decide), A.2.1.c.M.t, c218 A.2.1 (k0 := fun y => (by omega : False).elim) (k1 := fun _ h6 f6 g6 => ?_)⟩
    obtain ⟨B, L6, e0, e87⟩ := A.mod f6 g6 (g.2.2.2.2)
    exact fin1 (by decide) B.2.1.c.M.t e0 (N _ _ _ _ _ _ _ _ _ _ _ _ _ _ _ _ B L6 (by omega) (by omega) (by omega))
theorem L1033 (hd : 100 ≤ d) (g : LI h pp ss tt tl tp er q dq r) (hi : 0 ≤ i ∧ i + 6 ≤ am_sl h ∧ i < 100000) (hc : nc + 200 ≤ 601024 ∧ ns + 2000 ≤ 7293034) (hy : ss 0 0 + 100 < 2000000000) (N : NX d i h (ss 0 0) nc ns) : WP (d + 1) 245 (1033, [(4, 0), (2, 0), (2, 53), (2, 87), (0, i), y5, y6, y7, y8], [], h, nc, ns) am_K0 := by
  obtain ⟨d, rfl⟩ : ∃ e, d = e + 30 := ⟨d - 30, by omega⟩
  have gc := g.1
  have gtb := gc.tb
  obtain ⟨a1, e1⟩ : ∃ a, am_sx h (w32 (i + 1)) = a := ⟨_, rfl⟩
  refine v245_1033 ⟨ix hi LW.rf 1 (by decide), ⟨by omega, by omega⟩, ?_⟩
  rw [e1]
  refine w239 gc.t0 ?_
  by_cases z1 : 0 ≤ a1 ∧ a1 < pp 1 0
  · by_cases z2 : ss 7 a1 = -1
    · refine c119 gc (k0 := fun y => (by omega : False).elim) (k1 := fun _ h2 f2 g2 => Or.inr (Or.inr ⟨rfl, okx ?_⟩)) (k3 := fun y => (by omega : False).elim)
      have A := LAx g f2 (by decide) (by decide) g2
      generalize h2 = h3 at A ⊢
      have L3 := A.2.2.2.2
      rw [L3.2 (w32 (i + 1)), e1]
      refine ⟨ix hi L3 1 (by decide), A.2.1.c.M.t, c219 A.2.1 (k0 := fun y => (by omega : False).elim) (k2 := fun _ h6 f6 g6 => ?_) (k1 := fun y => (by omega : False).elim)⟩
      obtain ⟨B, L6, e0, e87⟩ := A.mod f6 g6 (g.2.2.2.2)
      exact fin1 (by decide) B.2.1.c.M.t e0 (N _ _ _ _ _ _ _ _ _ _ _ _ _ _ _ _ B L6 (by omega) (by omega) (by omega))
    · refine c119 gc (k0 := fun _ h2 f2 g2 => Or.inl ⟨rfl, o2 g f2, okx ?_⟩) (k1 := fun y => (by omega : False).elim) (k3 := fun y => (by omega : False).elim)
      obtain ⟨A, out⟩ := LAw (v := ss 7 a1) (LAx g f2 (by decide) (by decide) g2)
      generalize am_w h2 87 0 (ss 7 a1) = h3 at A out ⊢
      have L3 := A.2.2.2.2
      rw [L3.2 (w32 (i + 1)), e1]
      refine ⟨ix hi L3 1 (by decide), A.2.1.c.M.t, c219 A.2.1 (k0 := fun _ h6 f6 g6 => ?_) (k2 := fun y => (by omega : False).elim) (k1 := fun y => (by omega : False).elim)⟩
      obtain ⟨B, L6, e0, e87⟩ := A.mod f6 g6 (g.2.2.2.2)
      exact fin0 B.2.1.c.M.t e0 B.2.2.2.1 (e87.trans out) (N _ _ _ _ _ _ _ _ _ _ _ _ _ _ _ _ B L6 (by rw [su_ne (fun y => absurd y.1 (by decide)), su_ne (fun y => absurd y.1 (by decide))]; omega) (by omega) (by omega))
  · refine c119 gc (k0 := fun y => (by omega : False).elim) (k1 := fun y => (by omega : False).elim) (k3 := fun _ h2 f2 g2 => Or.inr (Or.inl ⟨rfl, okx ?_⟩))
    have A := LAx g f2 (by decide) (by decide) g2
    generalize h2 = h3 at A ⊢
    have L3 := A.2.2.2.2
    rw [L3.2 (w32 (i + 1)), e1]
    refine ⟨ix hi L3 1 (by decide), A.2.1.c.M.t, c219 A.2.1 (k0 := fun y => (by omega : False).elim) (k2 := fun y => (by omega : False).elim) (k1 := fun _ h6 f6 g6 => ?_)⟩
    obtain ⟨B, L6, e0, e87⟩ := A.mod f6 g6 (g.2.2.2.2)
    exact fin1 (by decide) B.2.1.c.M.t e0 (N _ _ _ _ _ _ _ _ _ _ _ _ _ _ _ _ B L6 (by omega) (by omega) (by omega))
theorem L1089 (hd : 100 ≤ d) (g : LI h pp ss tt tl tp er q dq r) (hi : 0 ≤ i ∧ i + 6 ≤ am_sl h ∧ i < 100000) (hc : nc + 200 ≤ 601024 ∧ ns + 2000 ≤ 7293034) (hy : ss 0 0 + 100 < 2000000000) (N : NX d i h (ss 0 0) nc ns) : WP (d + 1) 245 (1089, [(4, 0), (2, 0), (2, 53), (2, 87), (0, i), y5, y6, y7, y8], [], h, nc, ns) am_K0 := by
  obtain ⟨d, rfl⟩ : ∃ e, d = e + 30 := ⟨d - 30, by omega⟩
  have gc := g.1
  have gtb := gc.tb
  obtain ⟨a1, e1⟩ : ∃ a, am_sx h (w32 (i + 1)) = a := ⟨_, rfl⟩
  refine v245_1089 ⟨ix hi LW.rf 1 (by decide), ⟨by omega, by omega⟩, ?_⟩
  rw [e1]
  refine w240 gc.t0 ?_
  by_cases z1 : 1 ≤ a1 ∧ a1 ≤ 60
  · refine c120 gc hy (k0 := fun _ h2 f2 g2 => Or.inl ⟨rfl, o2 g f2, okx ?_⟩) (k2 := fun y => (by omega : False).elim)
    obtain ⟨A, out⟩ := LAw (v := w32 (s_bc pp (s_ys pp tt (-1) a1.toNat ss) - s_bc pp ss)) (LAx g f2 (by decide) (by decide) g2)
    generalize am_w h2 87 0 (w32 (s_bc pp (s_ys pp tt (-1) a1.toNat ss) - s_bc pp ss)) = h3 at A out ⊢
    have L3 := A.2.2.2.2
    rw [L3.2 (w32 (i + 1)), e1]
    refine ⟨ix hi L3 1 (by decide), A.2.1.c.M.t, c220 A.2.1 hy (k0 := fun _ h6 f6 g6 => ?_) (k1 := fun y => (by omega : False).elim)⟩
    obtain ⟨B, L6, e0, e87⟩ := A.mod f6 g6 (g.2.2.2.2)
    exact fin0 B.2.1.c.M.t e0 B.2.2.2.1 (e87.trans out) (N _ _ _ _ _ _ _ _ _ _ _ _ _ _ _ _ B L6 (by rw [s_ys_0]; omega) (by omega) (by omega))
  · refine c120 gc hy (k0 := fun y => (by omega : False).elim) (k2 := fun _ h2 f2 g2 => Or.inr ⟨rfl, okx ?_⟩)
    have A := LAx g f2 (by decide) (by decide) g2
    generalize h2 = h3 at A ⊢
    have L3 := A.2.2.2.2
    rw [L3.2 (w32 (i + 1)), e1]
    refine ⟨ix hi L3 1 (by decide), A.2.1.c.M.t, c220 A.2.1 hy (k0 := fun y => (by omega : False).elim) (k1 := fun _ h6 f6 g6 => ?_)⟩
    obtain ⟨B, L6, e0, e87⟩ := A.mod f6 g6 (g.2.2.2.2)
    exact fin1 (by decide) B.2.1.c.M.t e0 (N _ _ _ _ _ _ _ _ _ _ _ _ _ _ _ _ B L6 (by omega) (by omega) (by omega))
theorem L1145 (hd : 100 ≤ d) (g : LI h pp ss tt tl tp er q dq r) (hi : 0 ≤ i ∧ i + 6 ≤ am_sl h ∧ i < 100000) (hc : nc + 200 ≤ 601024 ∧ ns + 2000 ≤ 7293034) (hy : ss 0 0 + 100 < 2000000000) (N : NX d i h (ss 0 0) nc ns) : WP (d + 1) 245 (1145, [(4, 0), (2, 0), (2, 53), (2, 87), (0, i), y5, y6, y7, y8], [], h, nc, ns) am_K0 := by
  obtain ⟨d, rfl⟩ : ∃ e, d = e + 30 := ⟨d - 30, by omega⟩
  have gc := g.1
  have gtb := gc.tb
  obtain ⟨a1, e1⟩ : ∃ a, am_sx h (w32 (i + 1)) = a := ⟨_, rfl⟩
  refine v245_1145 ⟨ix hi LW.rf 1 (by decide), ⟨by omega, by omega⟩, ?_⟩
  rw [e1]
  refine w241 gc.t0 ?_
  by_cases z1 : 0 ≤ a1 ∧ a1 < pp 1 0
  · refine c121 gc hy (k0 := fun _ h2 f2 g2 => Or.inl ⟨rfl, o2 g f2, okx ?_⟩) (k3 := fun y => (by omega : False).elim)
    obtain ⟨A, out⟩ := LAw (v := s_ul pp tt a1 61 0 ss) (LAx g f2 (by decide) (by decide) g2)
    generalize am_w h2 87 0 (s_ul pp tt a1 61 0 ss) = h3 at A out ⊢
    have L3 := A.2.2.2.2
    rw [L3.2 (w32 (i + 1)), e1]
    refine ⟨ix hi L3 1 (by decide), A.2.1.c.M.t, c221 A.2.1 hy (k0 := fun _ h6 f6 g6 => ?_) (k1 := fun y => (by omega : False).elim)⟩
    obtain ⟨B, L6, e0, e87⟩ := A.mod f6 g6 (g.2.2.2.2)
    exact fin0 B.2.1.c.M.t e0 B.2.2.2.1 (e87.trans out) (N _ _ _ _ _ _ _ _ _ _ _ _ _ _ _ _ B L6 (by omega) (by omega) (by omega))
  · refine c121 gc hy (k0 := fun y => (by omega : False).elim) (k3 := fun _ h2 f2 g2 => Or.inr ⟨rfl, okx ?_⟩)
    have A := LAx g f2 (by decide) (by decide) g2
    generalize h2 = h3 at A ⊢
    have L3 := A.2.2.2.2
    rw [L3.2 (w32 (i + 1)), e1]
    refine ⟨ix hi L3 1 (by decide), A.2.1.c.M.t, c221 A.2.1 hy (k0 := fun y => (by omega : False).elim) (k1 := fun _ h6 f6 g6 => ?_)⟩
    obtain ⟨B, L6, e0, e87⟩ := A.mod f6 g6 (g.2.2.2.2)
    exact fin1 (by decide) B.2.1.c.M.t e0 (N _ _ _ _ _ _ _ _ _ _ _ _ _ _ _ _ B L6 (by omega) (by omega) (by omega))
theorem L1201 (hd : 100 ≤ d) (g : LI h pp ss tt tl tp er q dq r) (hi : 0 ≤ i ∧ i + 6 ≤ am_sl h ∧ i < 100000) (hc : nc + 200 ≤ 601024 ∧ ns + 2000 ≤ 7293034) (hy : ss 0 0 + 100 < 2000000000) (N : NX d i h (ss 0 0) nc ns) : WP (d + 1) 245 (1201, [(4, 0), (2, 0), (2, 53), (2, 87), (0, i), y5, y6, y7, y8], [], h, nc, ns) am_K0 := by
  obtain ⟨d, rfl⟩ : ∃ e, d = e + 30 := ⟨d - 30, by omega⟩
  have gc := g.1
  have gtb := gc.tb
  obtain ⟨a1, e1⟩ : ∃ a, am_sx h (w32 (i + 1)) = a := ⟨_, rfl⟩
  obtain ⟨a2, e2⟩ : ∃ a, am_sx h (w32 (i + 2)) = a := ⟨_, rfl⟩
  refine v245_1201 ⟨ix hi LW.rf 1 (by decide), ix hi LW.rf 2 (by decide), ⟨by omega, by omega⟩, ?_⟩
  rw [e1, e2]
  refine w242 gc.t0 ?_
  by_cases z1 : 1 ≤ a1 ∧ a1 ≤ 60
  · by_cases z2 : 6 ≤ a2 ∧ a2 ≤ 10
    · refine c122 gc hy (k0 := fun _ h2 f2 g2 => Or.inl ⟨rfl, o2 g f2, okx ?_⟩) (k2 := fun y => (by omega : False).elim) (k3 := fun y => (by omega : False).elim)
      obtain ⟨A, out⟩ := LAw (v := s_tot pp (s_ys pp tt (-1) a1.toNat ss) a2) (LAx g f2 (by decide) (by decide) g2)
      generalize am_w h2 87 0 (s_tot pp (s_ys pp tt (-1) a1.toNat ss) a2) = h3 at A out ⊢
      have L3 := A.2.2.2.2
      rw [L3.2 (w32 (i + 1)), e1, L3.2 (w32 (i + 2)), e2]
      refine ⟨ix hi L3 1 (by decide), ix hi L3 2 (by decide), A.2.1.c.M.t, c222 A.2.1 hy (k0 := fun _ h6 f6 g6 => ?_) (k1 := fun y => (by omega : False).elim) (k2 := fun y => (by omega : False).elim)⟩
      obtain ⟨B, L6, e0, e87⟩ := A.mod f6 g6 (g.2.2.2.2)
      exact fin0 B.2.1.c.M.t e0 B.2.2.2.1 (e87.trans out) (N _ _ _ _ _ _ _ _ _ _ _ _ _ _ _ _ B L6 (by omega) (by omega) (by omega))
    · refine c122 gc hy (k0 := fun y => (by omega : False).elim) (k2 := fun y => (by omega : False).elim) (k3 := fun _ h2 f2 g2 => Or.inr (Or.inr ⟨rfl, okx ?_⟩))
      have A := LAx g f2 (by decide) (by decide) g2
      generalize h2 = h3 at A ⊢
      have L3 := A.2.2.2.2
      rw [L3.2 (w32 (i + 1)), e1, L3.2 (w32 (i + 2)), e2]
      refine ⟨ix hi L3 1 (by decide), ix hi L3 2 (by decide), A.2.1.c.M.t, c222 A.2.1 hy (k0 := fun y => (by omega : False).elim) (k1 := fun y => (by omega : False).elim) (k2 := fun _ h6 f6 g6 => ?_)⟩
      obtain ⟨B, L6, e0, e87⟩ := A.mod f6 g6 (g.2.2.2.2)
      exact fin1 (by decide) B.2.1.c.M.t e0 (N _ _ _ _ _ _ _ _ _ _ _ _ _ _ _ _ B L6 (by omega) (by omega) (by omega))
  · refine c122 gc hy (k0 := fun y => (by omega : False).elim) (k2 := fun _ h2 f2 g2 => Or.inr (Or.inl ⟨rfl, okx ?_⟩)) (k3 := fun y => (by omega : False).elim)
    have A := LAx g f2 (by decide) (by decide) g2
    generalize h2 = h3 at A ⊢
    have L3 := A.2.2.2.2
    rw [L3.2 (w32 (i + 1)), e1, L3.2 (w32 (i + 2)), e2]
    refine ⟨ix hi L3 1 (by decide), ix hi L3 2 (by decide), A.2.1.c.M.t, c222 A.2.1 hy (k0 := fun y => (by omega : False).elim) (k1 := fun _ h6 f6 g6 => ?_) (k2 := fun y => (by omega : False).elim)⟩
    obtain ⟨B, L6, e0, e87⟩ := A.mod f6 g6 (g.2.2.2.2)
    exact fin1 (by decide) B.2.1.c.M.t e0 (N _ _ _ _ _ _ _ _ _ _ _ _ _ _ _ _ B L6 (by omega) (by omega) (by omega))
theorem L1269 (hd : 100 ≤ d) (g : LI h pp ss tt tl tp er q dq r) (hi : 0 ≤ i ∧ i + 6 ≤ am_sl h ∧ i < 100000) (hc : nc + 200 ≤ 601024 ∧ ns + 2000 ≤ 7293034) (hy : ss 0 0 + 100 < 2000000000) (N : NX d i h (ss 0 0) nc ns) : WP (d + 1) 245 (1269, [(4, 0), (2, 0), (2, 53), (2, 87), (0, i), y5, y6, y7, y8], [], h, nc, ns) am_K0 := by
  obtain ⟨d, rfl⟩ : ∃ e, d = e + 30 := ⟨d - 30, by omega⟩
  have gc := g.1
  have gtb := gc.tb
  obtain ⟨a1, e1⟩ : ∃ a, am_sx h (w32 (i + 1)) = a := ⟨_, rfl⟩
  obtain ⟨a2, e2⟩ : ∃ a, am_sx h (w32 (i + 2)) = a := ⟨_, rfl⟩
  refine v245_1269 ⟨ix hi LW.rf 1 (by decide), ix hi LW.rf 2 (by decide), ⟨by omega, by omega⟩, ?_⟩
  rw [e1, e2]
  refine w243 gc.t0 ?_
  by_cases z1 : 0 ≤ a1 ∧ a1 < pp 2 0
  · by_cases z2 : 1 ≤ a2 ∧ a2 ≤ 20
    · refine c123 gc hy (k0 := fun _ h2 f2 g2 => Or.inl ⟨rfl, o2 g f2, okx ?_⟩) (k2 := fun y => (by omega : False).elim) (k3 := fun y => (by omega : False).elim)
      obtain ⟨A, out⟩ := LAw (v := (s_av pp ss tt a1 a2.toNat (pp 1 0).toNat).1) (LAx g f2 (by decide) (by decide) g2)
      generalize am_w h2 87 0 ((s_av pp ss tt a1 a2.toNat (pp 1 0).toNat).1) = h3 at A out ⊢
      have L3 := A.2.2.2.2
      rw [L3.2 (w32 (i + 1)), e1, L3.2 (w32 (i + 2)), e2]
      refine ⟨ix hi L3 1 (by decide), ix hi L3 2 (by decide), A.2.1.c.M.t, c223 A.2.1 hy (k0 := fun _ h6 f6 g6 => ?_) (k2 := fun y => (by omega : False).elim) (k1 := fun y => (by omega : False).elim)⟩
      obtain ⟨B, L6, e0, e87⟩ := A.mod f6 g6 (g.2.2.2.2)
      exact fin0 B.2.1.c.M.t e0 B.2.2.2.1 (e87.trans out) (N _ _ _ _ _ _ _ _ _ _ _ _ _ _ _ _ B L6 (by omega) (by omega) (by omega))
    · refine c123 gc hy (k0 := fun y => (by omega : False).elim) (k2 := fun _ h2 f2 g2 => Or.inr (Or.inr ⟨rfl, okx ?_⟩)) (k3 := fun y => (by omega : False).elim)
      have A := LAx g f2 (by decide) (by decide) g2
      generalize h2 = h3 at A ⊢
      have L3 := A.2.2.2.2
      rw [L3.2 (w32 (i + 1)), e1, L3.2 (w32 (i + 2)), e2]
      refine ⟨ix hi L3 1 (by decide), ix hi L3 2 (by decide), A.2.1.c.M.t, c223 A.2.1 hy (k0 := fun y => (by omega : False).elim) (k2 := fun _ h6 f6 g6 => ?_) (k1 := fun y => (by omega : False).elim)⟩
      obtain ⟨B, L6, e0, e87⟩ := A.mod f6 g6 (g.2.2.2.2)
      exact fin1 (by decide) B.2.1.c.M.t e0 (N _ _ _ _ _ _ _ _ _ _ _ _ _ _ _ _ B L6 (by omega) (by omega) (by omega))
  · refine c123 gc hy (k0 := fun y => (by omega : False).elim) (k2 := fun y => (by omega : False).elim) (k3 := fun _ h2 f2 g2 => Or.inr (Or.inl ⟨rfl, okx ?_⟩))
    have A := LAx g f2 (by decide) (by decide) g2
    generalize h2 = h3 at A ⊢
    have L3 := A.2.2.2.2
    rw [L3.2 (w32 (i + 1)), e1, L3.2 (w32 (i + 2)), e2]
    refine ⟨ix hi L3 1 (by decide), ix hi L3 2 (by decide), A.2.1.c.M.t, c223 A.2.1 hy (k0 := fun y => (by omega : False).elim) (k2 := fun y => (by omega : False).elim) (k1 := fun _ h6 f6 g6 => ?_)⟩
    obtain ⟨B, L6, e0, e87⟩ := A.mod f6 g6 (g.2.2.2.2)
    exact fin1 (by decide) B.2.1.c.M.t e0 (N _ _ _ _ _ _ _ _ _ _ _ _ _ _ _ _ B L6 (by omega) (by omega) (by omega))
theorem L1337 (hd : 100 ≤ d) (g : LI h pp ss tt tl tp er q dq r) (hi : 0 ≤ i ∧ i + 6 ≤ am_sl h ∧ i < 100000) (hc : nc + 200 ≤ 601024 ∧ ns + 2000 ≤ 7293034) (hy : ss 0 0 + 100 < 2000000000) (N : NX d i h (ss 0 0) nc ns) : WP (d + 1) 245 (1337, [(4, 0), (2, 0), (2, 53), (2, 87), (0, i), y5, y6, y7, y8], [], h, nc, ns) am_K0 := by
  obtain ⟨d, rfl⟩ : ∃ e, d = e + 30 := ⟨d - 30, by omega⟩
  have gc := g.1
  have gtb := gc.tb
  obtain ⟨a1, e1⟩ : ∃ a, am_sx h (w32 (i + 1)) = a := ⟨_, rfl⟩
  refine v245_1337 ⟨ix hi LW.rf 1 (by decide), ⟨by omega, by omega⟩, ?_⟩
  rw [e1]
  refine w244 gc.t0 ?_
  by_cases z1 : 1 ≤ a1 ∧ a1 ≤ 20
  · refine c124 gc hy (k0 := fun _ h2 f2 g2 => Or.inl ⟨rfl, o2 g f2, okx ?_⟩) (k2 := fun y => (by omega : False).elim)
    obtain ⟨A, out⟩ := LAw (v := (s_sp pp ss tt a1.toNat (pp 1 0).toNat).1) (LAx g f2 (by decide) (by decide) g2)
    generalize am_w h2 87 0 ((s_sp pp ss tt a1.toNat (pp 1 0).toNat).1) = h3 at A out ⊢
    have L3 := A.2.2.2.2
    rw [L3.2 (w32 (i + 1)), e1]
    refine ⟨ix hi L3 1 (by decide), A.2.1.c.M.t, c224 A.2.1 hy (k0 := fun _ h6 f6 g6 => ?_) (k1 := fun y => (by omega : False).elim)⟩
    obtain ⟨B, L6, e0, e87⟩ := A.mod f6 g6 (g.2.2.2.2)
    exact fin0 B.2.1.c.M.t e0 B.2.2.2.1 (e87.trans out) (N _ _ _ _ _ _ _ _ _ _ _ _ _ _ _ _ B L6 (by omega) (by omega) (by omega))
  · refine c124 gc hy (k0 := fun y => (by omega : False).elim) (k2 := fun _ h2 f2 g2 => Or.inr ⟨rfl, okx ?_⟩)
    have A := LAx g f2 (by decide) (by decide) g2
    generalize h2 = h3 at A ⊢
    have L3 := A.2.2.2.2
    rw [L3.2 (w32 (i + 1)), e1]
    refine ⟨ix hi L3 1 (by decide), A.2.1.c.M.t, c224 A.2.1 hy (k0 := fun y => (by omega : False).elim) (k1 := fun _ h6 f6 g6 => ?_)⟩
    obtain ⟨B, L6, e0, e87⟩ := A.mod f6 g6 (g.2.2.2.2)
    exact fin1 (by decide) B.2.1.c.M.t e0 (N _ _ _ _ _ _ _ _ _ _ _ _ _ _ _ _ B L6 (by omega) (by omega) (by omega))
theorem L806 (hd : 100 ≤ d) (g : LI h pp ss tt tl tp er q dq r) (hi : 0 ≤ i ∧ i + 6 ≤ am_sl h ∧ i < 100000) (hc : nc + 200 ≤ 601024 ∧ ns + 2000 ≤ 7293034) (hy : ss 0 0 + 100 < 2000000000) (N : NX d i h (ss 0 0) nc ns) : WP (d + 1) 245 (806, [(4, 0), (2, 0), (2, 53), (2, 87), (0, i), y5, y6, y7, y8], [], h, nc, ns) am_K0 := by
  obtain ⟨d, rfl⟩ : ∃ e, d = e + 30 := ⟨d - 30, by omega⟩
  have gc := g.1
  obtain ⟨a1, e1⟩ : ∃ a, am_sx h (w32 (i + 1)) = a := ⟨_, rfl⟩
  obtain ⟨a2, e2⟩ : ∃ a, am_sx h (w32 (i + 2)) = a := ⟨_, rfl⟩
  obtain ⟨a3, e3⟩ : ∃ a, am_sx h (w32 (i + 3)) = a := ⟨_, rfl⟩
  refine v245_806 ⟨ix hi LW.rf 1 (by decide), ix hi LW.rf 2 (by decide), ix hi LW.rf 3 (by decide), fun zx => ⟨⟨by omega, by omega⟩, ?_⟩, fun zx => ⟨⟨by omega, by omega⟩, ?_⟩⟩
  · rw [e1, e2]
    rw [e3] at zx
    refine w236 gc.t0 ?_
    by_cases z : (0 ≤ a1 ∧ a1 < pp 2 0) ∧ 0 ≤ a2 ∧ a2 < pp 1 0
    · refine c116 gc (by decide) (k0 := fun _ h2 f2 g2 => Or.inl ⟨rfl, o2 g f2, gc.c.S.fan _, okx ?_⟩) (k3 := fun y => (by omega : False).elim)
      obtain ⟨A, out⟩ := LAw (v := ss 9 (12 * a1 + a2)) (LAx g f2 (by decide) (by decide) g2)
      generalize am_w h2 87 0 (ss 9 (12 * a1 + a2)) = h3 at A out ⊢
      have L3 := A.2.2.2.2
      rw [L3.2 (w32 (i + 1)), e1, L3.2 (w32 (i + 2)), e2, L3.2 (w32 (i + 3)), e3]
      refine ⟨ix hi L3 1 (by decide), ix hi L3 2 (by decide), ix hi L3 3 (by decide), fun _ => ⟨A.2.1.c.M.t, c216 A.2.1 (by decide) (k0 := fun _ h6 f6 g6 => ?_) (k1 := fun y => (by omega : False).elim)⟩, fun y => absurd zx y⟩
      obtain ⟨B, L6, e0, e87⟩ := A.mod f6 g6 (g.2.2.2.2)
      exact fin0b B.2.1.c.M.t e0 B.2.2.2.1 (e87.trans out) (gc.c.S.fan _) (N _ _ _ _ _ _ _ _ _ _ _ _ _ _ _ _ B L6 (by rw [su_ne (fun y => absurd y.1 (by decide))]; omega) (by omega) (by omega))
    · refine c116 gc (by decide) (k0 := fun y => (by omega : False).elim) (k3 := fun _ h2 f2 g2 => Or.inr ⟨rfl, okx ?_⟩)
      have A := LAx g f2 (by decide) (by decide) g2
      generalize h2 = h3 at A ⊢
      have L3 := A.2.2.2.2
      rw [L3.2 (w32 (i + 1)), e1, L3.2 (w32 (i + 2)), e2, L3.2 (w32 (i + 3)), e3]
      refine ⟨ix hi L3 1 (by decide), ix hi L3 2 (by decide), ix hi L3 3 (by decide), fun _ => ⟨A.2.1.c.M.t, c216 A.2.1 (by decide) (k0 := fun y => (by omega : False).elim) (k1 := fun _ h6 f6 g6 => ?_)⟩, fun y => absurd zx y⟩
      obtain ⟨B, L6, e0, e87⟩ := A.mod f6 g6 (g.2.2.2.2)
      exact fin1 (by decide) B.2.1.c.M.t e0 (N _ _ _ _ _ _ _ _ _ _ _ _ _ _ _ _ B L6 (by omega) (by omega) (by omega))
  · rw [e1, e2]
    rw [e3] at zx
    refine w236 gc.t0 ?_
    by_cases z : (0 ≤ a1 ∧ a1 < pp 2 0) ∧ 0 ≤ a2 ∧ a2 < pp 1 0
    · refine c116 gc (by decide) (k0 := fun _ h2 f2 g2 => Or.inl ⟨rfl, o2 g f2, gc.c.S.fan _, okx ?_⟩) (k3 := fun y => (by omega : False).elim)
      obtain ⟨A, out⟩ := LAw (v := ss 9 (12 * a1 + a2)) (LAx g f2 (by decide) (by decide) g2)
      generalize am_w h2 87 0 (ss 9 (12 * a1 + a2)) = h3 at A out ⊢
      have L3 := A.2.2.2.2
      rw [L3.2 (w32 (i + 1)), e1, L3.2 (w32 (i + 2)), e2, L3.2 (w32 (i + 3)), e3]
      refine ⟨ix hi L3 1 (by decide), ix hi L3 2 (by decide), ix hi L3 3 (by decide), fun y => absurd y zx, fun _ => ⟨A.2.1.c.M.t, c216 A.2.1 (by decide) (k0 := fun _ h6 f6 g6 => ?_) (k1 := fun y => (by omega : False).elim)⟩⟩
      obtain ⟨B, L6, e0, e87⟩ := A.mod f6 g6 (g.2.2.2.2)
      exact fin0b B.2.1.c.M.t e0 B.2.2.2.1 (e87.trans out) (gc.c.S.fan _) (N _ _ _ _ _ _ _ _ _ _ _ _ _ _ _ _ B L6 (by rw [su_ne (fun y => absurd y.1 (by decide))]; omega) (by omega) (by omega))
    · refine c116 gc (by decide) (k0 := fun y => (by omega : False).elim) (k3 := fun _ h2 f2 g2 => Or.inr ⟨rfl, okx ?_⟩)
      have A := LAx g f2 (by decide) (by decide) g2
      generalize h2 = h3 at A ⊢
      have L3 := A.2.2.2.2
      rw [L3.2 (w32 (i + 1)), e1, L3.2 (w32 (i + 2)), e2, L3.2 (w32 (i + 3)), e3]
      refine ⟨ix hi L3 1 (by decide), ix hi L3 2 (by decide), ix hi L3 3 (by decide), fun y => absurd y zx, fun _ => ⟨A.2.1.c.M.t, c216 A.2.1 (by decide) (k0 := fun y => (by omega : False).elim) (k1 := fun _ h6 f6 g6 => ?_)⟩⟩
      obtain ⟨B, L6, e0, e87⟩ := A.mod f6 g6 (g.2.2.2.2)
      exact fin1 (by decide) B.2.1.c.M.t e0 (N _ _ _ _ _ _ _ _ _ _ _ _ _ _ _ _ B L6 (by omega) (by omega) (by omega))
theorem L321 (hd : 100 ≤ d) (g : LI h pp ss tt tl tp er q dq r) (hi : 0 ≤ i ∧ i + 6 ≤ am_sl h ∧ i < 100000) (hc : nc + 200 ≤ 601024 ∧ ns + 2000 ≤ 7293034) (hy : ss 0 0 + 100 < 2000000000) (N : NX d i h (ss 0 0) nc ns) : WP (d + 1) 245 (321, [(4, 0), (2, 0), (2, 53), (2, 87), (0, i), y5, y6, y7, y8], [], h, nc, ns) am_K0 := by
  obtain ⟨d, rfl⟩ : ∃ e, d = e + 30 := ⟨d - 30, by omega⟩
  have gc := g.1
  refine v245_321 ⟨gc.t0, c106 gc (okx ?_)⟩
  have A := LAx g (Fr.rf : Fr 35 18 h h) (by decide) (by decide) gc
  refine ⟨A.2.1.c.M.t, c202 A.2.1 (fun h6 f6 g6 => okx ?_)⟩
  obtain ⟨B, L6, e0, e87⟩ := A.mod f6 g6 g.2.2.2.2
  exact ⟨fun _ => (N _ _ _ _ _ _ _ _ _ _ _ _ _ _ _ _ B L6 (by omega) (by omega) (by omega)), fun y => absurd rfl y⟩
theorem L793 (hd : 100 ≤ d) (g : LI h pp ss tt tl tp er q dq r) (hi : 0 ≤ i ∧ i + 6 ≤ am_sl h ∧ i < 100000) (hc : nc + 200 ≤ 601024 ∧ ns + 2000 ≤ 7293034) (hy : ss 0 0 + 100 < 2000000000) (N : NX d i h (ss 0 0) nc ns) : WP (d + 1) 245 (793, [(4, 0), (2, 0), (2, 53), (2, 87), (0, i), y5, y6, y7, y8], [], h, nc, ns) am_K0 := by
  obtain ⟨d, rfl⟩ : ∃ e, d = e + 30 := ⟨d - 30, by omega⟩
  have gc := g.1
  refine v245_793 ⟨gc.t0, c115 gc (fun h2 f2 g2 => okx ?_)⟩
  have A := LAx g f2 (by decide) (by decide) g2
  refine ⟨A.2.1.c.M.t, c215 A.2.1 (fun h6 f6 g6 => okx ?_)⟩
  obtain ⟨B, L6, e0, e87⟩ := A.mod f6 g6 g.2.2.2.2
  exact ⟨fun _ => (N _ _ _ _ _ _ _ _ _ _ _ _ _ _ _ _ B L6 (by omega) (by omega) (by omega)), fun y => absurd rfl y⟩
theorem L1393 (hd : 100 ≤ d) (g : LI h pp ss tt tl tp er q dq r) (hi : 0 ≤ i ∧ i + 6 ≤ am_sl h ∧ i < 100000) (hc : nc + 200 ≤ 601024 ∧ ns + 2000 ≤ 7293034) (hy : ss 0 0 + 100 < 2000000000) (N : NX d i h (ss 0 0) nc ns) : WP (d + 1) 245 (1393, [(4, 0), (2, 0), (2, 53), (2, 87), (0, i), y5, y6, y7, y8], [], h, nc, ns) am_K0 := by
  obtain ⟨d, rfl⟩ : ∃ e, d = e + 30 := ⟨d - 30, by omega⟩
  have gc := g.1
  refine v245_1393 ⟨gc.t0, c125 gc (okx ?_)⟩
  have A := LAx g (Fr.rf : Fr 35 18 h h) (by decide) (by decide) gc
  refine ⟨A.2.1.c.M.t, c225 A.2.1 (fun h6 f6 g6 => okx ?_)⟩
  obtain ⟨B, L6, e0, e87⟩ := A.mod f6 g6 g.2.2.2.2
  by_cases z : am_dcl (s_mn pp ss) (s_mn pp ss) = 0
  · exact ⟨fun _ => (N _ _ _ _ _ _ _ _ _ _ _ _ _ _ _ _ B L6 (by omega) (by omega) (by omega)), fun y => absurd z y⟩
  · exact ⟨fun _ => (N _ _ _ _ _ _ _ _ _ _ _ _ _ _ _ _ B L6 (by omega) (by omega) (by omega)), fun _ => ⟨fun y => absurd y z, fun _ => ⟨fun y => absurd y z, fun _ => (N _ _ _ _ _ _ _ _ _ _ _ _ _ _ _ _ B L6 (by omega) (by omega) (by omega))⟩⟩⟩
theorem L1434 (hd : 100 ≤ d) (g : LI h pp ss tt tl tp er q dq r) (hi : 0 ≤ i ∧ i + 6 ≤ am_sl h ∧ i < 100000) (hc : nc + 200 ≤ 601024 ∧ ns + 2000 ≤ 7293034) (hy : ss 0 0 + 100 < 2000000000) (N : NX d i h (ss 0 0) nc ns) : WP (d + 1) 245 (1434, [(4, 0), (2, 0), (2, 53), (2, 87), (0, i), y5, y6, y7, y8], [], h, nc, ns) am_K0 := by
  obtain ⟨d, rfl⟩ : ∃ e, d = e + 30 := ⟨d - 30, by omega⟩
  have gc := g.1
  refine v245_1434 ⟨gc.t0, c126 gc (fun h2 f2 g2 => okx ?_)⟩
  have A := LAx g f2 (by decide) (by decide) g2
  refine ⟨⟨A.2.1.c.M.t, by omega, by omega⟩, c226 A.2.1 (fun h6 f6 g6 => okx ?_)⟩
  obtain ⟨B, L6, e0, e87⟩ := A.mod f6 g6 g.2.2.2.2
  exact ⟨fun _ => (N _ _ _ _ _ _ _ _ _ _ _ _ _ _ _ _ B L6 (by omega) (by omega) (by omega)), fun y => absurd (lcmp_eq rfl) y⟩
theorem te_ex {tl e : Int} {tp : Int → Int} {pl : Nat} (x : TE tp tl e pl) : (gAll (s_kd tp tl) 400 0 = .inl pl ∧ e = 1) ∨ ∃ E Bs R, gAll (s_kd tp tl) 400 0 = .inr (E, Bs, R) ∧ (run (roF R) (s_va tp tl) E 0 f00).1 = e ∧ e ≠ 0 ∧ (run (roF R) (s_va tp tl) E 0 f00).2.1 = pl := x
theorem te_un {tl e e2 : Int} {tp : Int → Int} {pl p2 : Nat} (x : TE tp tl e pl) (y : TE tp tl e2 p2) : e = e2 ∧ pl = p2 := by
  rcases x with ⟨x1, x2⟩ | ⟨E, Bs, R, x1, x2, x3, x4⟩
  · rcases y with ⟨y1, y2⟩ | ⟨E2, B2, R2, y1, y2, y3, y4⟩
    · rw [x1] at y1
      exact ⟨x2.trans y2.symm, Sum.inl.inj y1⟩
    · rw [x1] at y1
      cases y1
  · rcases y with ⟨y1, y2⟩ | ⟨E2, B2, R2, y1, y2, y3, y4⟩
    · rw [x1] at y1
      cases y1
    · rw [x1] at y1
      have z := Sum.inr.inj y1
      cases z
      exact ⟨x2.symm.trans y2, x4.symm.trans y4⟩
theorem te_no {tl e : Int} {tp : Int → Int} {pl : Nat} {E : Nat} {Bs : List (Nat × List Op)} {R : List Int} (x : TE tp tl e pl) (y1 : gAll (s_kd tp tl) 400 0 = .inr (E, Bs, R)) (y2 : (run (roF R) (s_va tp tl) E 0 f00).1 = 0) : False := by
  rcases x with ⟨x1, x2⟩ | ⟨E2, B2, R2, x1, x2, x3, x4⟩
  · rw [x1] at y1
    cases y1
  · rw [x1] at y1
    have z := Sum.inr.inj y1
    cases z
    exact x3 (x2.symm.trans y2)
theorem L308 (hd : 100 ≤ d) (g : LI h pp ss tt tl tp er q dq r) (hi : 0 ≤ i ∧ i + 6 ≤ am_sl h ∧ i < 100000) (hc : nc + 200 ≤ 601024 ∧ ns + 2000 ≤ 7293034) (hy : ss 0 0 + 100 < 2000000000) (N : NX d i h (ss 0 0) nc ns) : WP (d + 1) 245 (308, [(4, 0), (2, 0), (2, 53), (2, 87), (0, i), y5, y6, y7, y8], [], h, nc, ns) am_K0 := by
  obtain ⟨d, rfl⟩ : ∃ e, d = e + 100 := ⟨d - 100, by omega⟩
  have gc := g.1
  have hr := g.2.2.2.2
  have hn := g.2.1.n
  have nr : ∀ (t2 : Int), t2 = 0 → ∀ i, 0 ≤ i → i < t2 → 0 ≤ tp i ∧ tp i < 256 := fun t2 z i z0 z1 => absurd z1 (by omega)
  have af : ∀ {h2 : AH}, Fr 0 53 h h2 → (am_t h2 87 = 22 ∧ am_l h2 87 = 1) := fun f => o2 g f
  refine v245_308 ⟨gc.t0, c105 (by omega) gc g.2.2.1 hr (fun e pl te h2 f2 g2 x2 => okx ?_) (fun E Bs R ea z h2 f2 g2 x2 => okx ?_)⟩
  · have gm := g.2.1.fr f2 (by decide)
    have A : LA h h2 pp ss tt tl tp er pp ss tt 0 tp (s_st tp tl pl) q dq r := ⟨g2, gm, x2, af f2, f2.lw⟩
    refine ⟨⟨gm.c.M.t, by omega, by omega⟩, c201 (by omega) gm hr (fun E Bs R er z i z0 z1 => (te_no te er z).elim) (fun e2 p2 te2 h6 f6 g6 => okx ?_) (fun E Bs R er z => (te_no te er z).elim)⟩
    obtain ⟨u1, u2⟩ := te_un te te2
    subst u1
    subst u2
    obtain ⟨B, L6, -, -⟩ := A.mod f6 (⟨g6, rfl⟩ : GT h6 pp ss tt 0 tp (s_st tp tl pl) r _) (nr 0 rfl)
    exact ⟨fun _ => N _ _ _ _ _ _ _ _ _ _ _ _ _ _ _ _ B L6 (by omega) (by omega) (by omega), fun y => absurd rfl y⟩
  · have gm := g.2.1.fr f2 (by decide)
    have A : LA h h2 pp ss tt tl tp er (run (roF R) (s_va tp tl) E 0 f00).2.2 (s_bg (run (roF R) (s_va tp tl) E 0 f00).2.2 (ss 0 0)) (ttF Bs (run (roF R) (s_va tp tl) E 0 f00).2.2) 0 tp (-1) dq q r := ⟨g2, gm, x2, af f2, f2.lw⟩
    refine ⟨⟨gm.c.M.t, by omega, by omega⟩, c201 (by omega) gm hr (fun E2 B2 R2 er2 z2 i z0 z1 => ?_) (fun e2 p2 te2 => (te_no te2 ea z).elim) (fun E2 B2 R2 er2 z2 h6 q6 f6 g6 => okx ?_)⟩
    · rw [ea] at er2
      have u := Sum.inr.inj er2
      cases u
      exact g2.ct.len z0 z1
    · rw [ea] at er2
      have u := Sum.inr.inj er2
      cases u
      obtain ⟨B, L6, -, -⟩ := A.mod f6 (⟨g6, rfl⟩ : GT h6 _ _ _ 0 tp (-1) q6 _) (nr 0 rfl)
      exact ⟨fun _ => N _ _ _ _ _ _ _ _ _ _ _ _ _ _ _ _ B L6 (by show ss 0 0 ≤ ss 0 0 + 60; omega) (by omega) (by omega), fun y => absurd rfl y⟩
end
