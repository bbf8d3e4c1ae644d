/-! ===== the law's bans as tests of the class ===== -/
def oB (pp : TT) (b : Int → Int) : List Op :=
  if b 1 = 0 then [(2, 0, 0), (1, b 2 % 5 + 1, 0), (15, 0, 0), (1, b 2 % 5 + 1, 0), (14, 0, 0), (2, 0, 0), (20, 0, 0)] else
  if b 1 = 1 then [(3, 0, 0), (1, b 3, 0), (18, 0, 0)] else
  if b 1 = 2 then [(8, b 4 % pp 1 0, 0)] else
  if b 1 = 3 then [(11, b 4 % pp 2 0, b 4 % pp 1 0)] else
  if b 1 = 4 then [(4, b 4 % pp 1 0, 0), (1, 5, 0), (1, b 3, 0), (14, 0, 0), (19, 0, 0)] else
  if b 1 = 5 then [(5, b 4 % pp 1 0, 0), (1, b 2 % 7, 0), (22, 0, 0), (10, 0, 0)] else
  if b 1 = 6 then [(6, b 4 % pp 2 0, 0), (1, b 3, 0), (19, 0, 0), (7, b 4 % pp 2 0, 0), (1, b 2 % 5, 0), (22, 0, 0), (24, 0, 0)] else
  [(3, 0, 0), (1, b 2, 0), (16, 0, 0), (2, 0, 0), (13, 0, 0), (1, 0, 0), (18, 0, 0), (2, 0, 0), (1, b 2, 0), (19, 0, 0), (8, b 4 % pp 1 0, 0), (10, 0, 0), (24, 0, 0), (23, 0, 0)]
theorem and_b0 : am_and 0 0 = 0 ∧ am_and 1 0 = 0 ∧ am_and 0 1 = 0 ∧ am_and 1 1 = 1 := by decide
theorem tdv_eq {y : Int} (h0 : 0 ≤ y) (h1 : y < 2000000000) : ∀ n : Int, 1 ≤ n → n ≤ 5 → ((w32 ((if n = 0 then 0 else w32 (y.tdiv n)) * n) = y) ↔ y % n = 0) := by
  intro n n0 n1
  have t0 : y.tdiv n = y / n := Int.tdiv_eq_ediv_of_nonneg h0
  rw [if_neg (by omega), t0]
  have hc : n = 1 ∨ n = 2 ∨ n = 3 ∨ n = 4 ∨ n = 5 := by omega
  clear t0
  rcases hc with e | e | e | e | e <;> subst e
  · rw [w32_id (x := y / 1) (by omega) (by omega), w32_id (by omega) (by omega)]; omega
  · rw [w32_id (x := y / 2) (by omega) (by omega), w32_id (by omega) (by omega)]; omega
  · rw [w32_id (x := y / 3) (by omega) (by omega), w32_id (by omega) (by omega)]; omega
  · rw [w32_id (x := y / 4) (by omega) (by omega), w32_id (by omega) (by omega)]; omega
  · rw [w32_id (x := y / 5) (by omega) (by omega), w32_id (by omega) (by omega)]; omega
theorem bI_iff {p q : Prop} [Decidable p] [Decidable q] (h : p ↔ q) : (if p then (1 : Int) else 0) = bI (decide q) := by
  by_cases z : p
  · rw [if_pos z, bI_1 (h.mp z)]
  · rw [if_neg z, bI_0 (fun y => z (h.mpr y))]
theorem tv_oB {pp ss : TT} {b : Int → Int} (hS : SI pp ss) (hN : 1 ≤ pp 1 0 ∧ pp 1 0 ≤ 7 ∧ 1 ≤ pp 2 0 ∧ pp 2 0 ≤ 7) (br : (0 ≤ b 1 ∧ b 1 < 8) ∧ (0 ≤ b 2 ∧ b 2 < 20) ∧ (0 ≤ b 3 ∧ b 3 < 90) ∧ 0 ≤ b 4 ∧ b 4 < 42) : tv pp ss (oB pp b) = bI (hB pp ss b) := by
  have p0 := Int.emod_nonneg (b 4) (show pp 1 0 ≠ 0 by omega)
  have p1 := Int.emod_lt_of_pos (b 4) (show 0 < pp 1 0 by omega)
  have v0 := Int.emod_nonneg (b 4) (show pp 2 0 ≠ 0 by omega)
  have v1 := Int.emod_lt_of_pos (b 4) (show 0 < pp 2 0 by omega)
  have y0 := hS.yr
  have po := hS.pot
  have hbp := hS.built p0 p1
  have hpu := hS.purse v0 v1
  have hfa := hS.fan (12 * (b 4 % pp 2 0) + b 4 % pp 1 0)
  unfold oB hB
  by_cases z0 : b 1 = 0
  · rw [if_pos z0, if_pos z0]
    exact bI_iff (tdv_eq y0.1 y0.2 (b 2 % 5 + 1) (by omega) (by omega))
  rw [if_neg z0, if_neg z0]
  by_cases z1 : b 1 = 1
  · rw [if_pos z1, if_pos z1]
    exact bI_iff Iff.rfl
  rw [if_neg z1, if_neg z1]
  by_cases z2 : b 1 = 2
  · rw [if_pos z2, if_pos z2]
    show (if ss 7 (b 4 % pp 1 0) = -1 then (0 : Int) else 1) = _
    by_cases y : ss 7 (b 4 % pp 1 0) = -1
    · rw [if_pos y, bI_n0 (by omega)]
    · rw [if_neg y, bI_n1 (by omega)]
  rw [if_neg z2, if_neg z2]
  by_cases z3 : b 1 = 3
  · rw [if_pos z3, if_pos z3]
    show ss 9 (12 * (b 4 % pp 2 0) + b 4 % pp 1 0) = _
    rcases hfa with e | e
    · rw [bI_0 (by omega), e]
    · rw [bI_1 e, e]
  rw [if_neg z3, if_neg z3]
  by_cases z4 : b 1 = 4
  · rw [if_pos z4, if_pos z4]
    refine bI_iff (p := w32 (5 * b 3) < ss 6 (b 4 % pp 1 0)) ?_
    rw [w32_id (by omega) (by omega)]
  rw [if_neg z4, if_neg z4]
  by_cases z5 : b 1 = 5
  · rw [if_pos z5, if_pos z5]
    show w32 (1 - (if s_nf pp ss (b 4 % pp 1 0) < b 2 % 7 then (0 : Int) else 1)) = _
    by_cases y : s_nf pp ss (b 4 % pp 1 0) < b 2 % 7
    · rw [if_pos y, bI_1 y]; rfl
    · rw [if_neg y, bI_0 y]; rfl
  rw [if_neg z5, if_neg z5]
  by_cases z6 : b 1 = 6
  · rw [if_pos z6, if_pos z6]
    show (if am_or (if b 3 < ss 4 (b 4 % pp 2 0) then (1 : Int) else 0) (if s_pl pp ss (b 4 % pp 2 0) < b 2 % 5 then (0 : Int) else 1) = 0 then (0 : Int) else 1) = _
    obtain ⟨o1, o2, o3, o4⟩ := or_b0
    by_cases y : b 3 < ss 4 (b 4 % pp 2 0)
    · rw [if_pos y, decide_eq_true y, Bool.true_or]
      by_cases x : s_pl pp ss (b 4 % pp 2 0) < b 2 % 5
      · rw [if_pos x, o2]; rfl
      · rw [if_neg x, o4]; rfl
    · rw [if_neg y, decide_eq_false y, Bool.false_or]
      by_cases x : s_pl pp ss (b 4 % pp 2 0) < b 2 % 5
      · rw [if_pos x, o1, bI_n0 x]; rfl
      · rw [if_neg x, o3, bI_n1 x]; rfl
  rw [if_neg z6, if_neg z6]
  show (if am_and (if w32 (min (ss 2 0) (b 2) - ss 0 0) < 0 then (1 : Int) else 0) (if am_or (if b 2 < ss 0 0 then (1 : Int) else 0) (w32 (1 - (if ss 7 (b 4 % pp 1 0) = -1 then (0 : Int) else 1))) = 0 then (0 : Int) else 1) = 0 then (0 : Int) else 1) = _
  obtain ⟨o1, o2, o3, o4⟩ := or_b0
  obtain ⟨n1, n2, n3, n4⟩ := and_b0
  rw [w32_id (x := min (ss 2 0) (b 2) - ss 0 0) (by omega) (by omega)]
  have w0 : w32 (1 - 0) = 1 := rfl
  have w1 : w32 (1 - 1) = 0 := rfl
  by_cases y : min (ss 2 0) (b 2) < ss 0 0
  · rw [if_pos (show min (ss 2 0) (b 2) - ss 0 0 < 0 by clear w0 w1; omega), decide_eq_true y, Bool.true_and]
    by_cases x : b 2 < ss 0 0
    · rw [if_pos x, decide_eq_true x, Bool.true_or]
      by_cases w : ss 7 (b 4 % pp 1 0) = -1
      · rw [if_pos w, w0, o4, if_neg (by decide)]; rfl
      · rw [if_neg w, w1, o2, if_neg (by decide)]; rfl
    · rw [if_neg x, decide_eq_false x, Bool.false_or]
      by_cases w : ss 7 (b 4 % pp 1 0) = -1
      · rw [if_pos w, w0, o3, if_neg (by decide), bI_1 (by clear w0 w1; omega)]
      · rw [if_neg w, w1, o1, if_pos rfl, n2, bI_0 (by clear w0 w1; omega)]; rfl
  · rw [if_neg (show ¬ min (ss 2 0) (b 2) - ss 0 0 < 0 by clear w0 w1; omega), decide_eq_false y, Bool.false_and]
    by_cases x : am_or (if b 2 < ss 0 0 then (1 : Int) else 0) (w32 (1 - (if ss 7 (b 4 % pp 1 0) = -1 then (0 : Int) else 1))) = 0
    · rw [if_pos x, n1]; rfl
    · rw [if_neg x, n3]; rfl
theorem bI_eq1 (b : Bool) : decide (bI b = 1) = b := by cases b <;> rfl
/-- the law's bans are the class's, when its tests are the bans' -/
theorem HQ_of {pp : TT} {bb : Int → Int → Int} {tt : Int → List Op} (hN : 1 ≤ pp 1 0 ∧ pp 1 0 ≤ 7 ∧ 1 ≤ pp 2 0 ∧ pp 2 0 ≤ 7) (br : ∀ i, 0 ≤ i → i < pp 3 0 → (0 ≤ bb i 1 ∧ bb i 1 < 8) ∧ (0 ≤ bb i 2 ∧ bb i 2 < 20) ∧ (0 ≤ bb i 3 ∧ bb i 3 < 90) ∧ 0 ≤ bb i 4 ∧ bb i 4 < 42) (e : ∀ i, 0 ≤ i → i < pp 3 0 → pp 7 i = bb i 0 ∧ tt i = oB pp (bb i)) : HQ pp bb tt := by
  intro ss hS q q0 q1
  unfold s_hb s_bn
  have key : ∀ n : Nat, (n : Int) ≤ pp 3 0 → hBn pp ss bb q n = tbn pp ss tt q n := by
    intro n
    induction n with
    | zero => intro _; rfl
    | succ n ih =>
      intro hn
      obtain ⟨e1, e2⟩ := e (n : Int) (by omega) (by omega)
      show (hBn pp ss bb q n || (decide (bb (n : Int) 0 = q) && hB pp ss (bb (n : Int)))) = (tbn pp ss tt q n || (decide (pp 7 (n : Int) = q) && decide (tv pp ss (tt (n : Int)) = 1)))
      rw [ih (by omega), e1, e2, tv_oB hS hN (br _ (by omega) (by omega)), bI_eq1]
  by_cases z : 0 ≤ pp 3 0
  · exact key _ (by omega)
  · rw [show (pp 3 0).toNat = 0 by omega]
    rfl
