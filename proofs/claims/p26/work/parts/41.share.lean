/-! ===== the share of a project ===== -/
def is_sh (pp ss : TT) (p t : Int) : Prop := 1 ≤ t ∧ t ≤ 9999 ∧ ss 6 p ≤ s_tg pp ss p t ∧ ∀ x, 1 ≤ x → x < t → s_tg pp ss p x < ss 6 p
noncomputable def s_sh (pp ss : TT) (p : Int) : Int := if s_tg pp ss p 9999 < ss 6 p then -1 else Classical.epsilon (is_sh pp ss p)
theorem sm_mono {f g : Int → Int} : ∀ {n : Nat}, (∀ i : Nat, i < n → f (i : Int) ≤ g (i : Int)) → sm f n ≤ sm g n
  | 0, _ => Int.le_refl _
  | n + 1, hh => by
    have z1 := sm_mono (f := f) (g := g) (n := n) (fun i hi => hh i (by omega))
    have z2 := hh n (by omega)
    show sm f n + f (n : Int) ≤ sm g n + g (n : Int)
    omega
theorem sm_strict {f g : Int → Int} : ∀ {n : Nat}, (∀ i : Nat, i < n → f (i : Int) ≤ g (i : Int)) → (∃ i : Nat, i < n ∧ f (i : Int) + 1 ≤ g (i : Int)) → sm f n + 1 ≤ sm g n
  | 0, _, hx => by
    obtain ⟨i, hi, -⟩ := hx
    omega
  | n + 1, hh, hx => by
    obtain ⟨i, hi, hl⟩ := hx
    show sm f n + f (n : Int) + 1 ≤ sm g n + g (n : Int)
    by_cases hin : i = n
    · subst hin
      have z1 := sm_mono (f := f) (g := g) (n := i) (fun j hj => hh j (by omega))
      omega
    · have z1 := sm_strict (f := f) (g := g) (n := n) (fun j hj => hh j (by omega)) ⟨i, by omega, hl⟩
      have z2 := hh n (by omega)
      omega
theorem sm_lin {f g c : Int → Int} {y : Int} : ∀ {n : Nat}, (∀ i : Nat, i < n → f (i : Int) = g (i : Int) + c (i : Int) * y) → sm f n = sm g n + sm c n * y
  | 0, _ => by
    show (0 : Int) = 0 + 0 * y
    omega
  | n + 1, hh => by
    show sm f n + f (n : Int) = sm g n + g (n : Int) + (sm c n + c (n : Int)) * y
    rw [sm_lin (f := f) (g := g) (c := c) (n := n) (fun i hi => hh i (by omega)), hh n (by omega), Int.add_mul]
    omega
theorem tg_mono {pp ss : TT} {p x y : Int} (hxy : x ≤ y) : s_tg pp ss p x ≤ s_tg pp ss p y := by
  refine sm_mono (fun i hi => ?_)
  unfold f_tg
  split <;> omega
theorem s_sh_eq {pp ss : TT} {p t : Int} (h1 : 1 ≤ t) (h2 : t ≤ 9999) (h3 : ss 6 p ≤ s_tg pp ss p t) (h4 : ∀ x, 1 ≤ x → x < t → s_tg pp ss p x < ss 6 p) : s_sh pp ss p = t := by
  unfold s_sh
  have z1 := tg_mono (pp := pp) (ss := ss) (p := p) h2
  rw [if_neg (by omega)]
  obtain ⟨y1, y2, y3, y4⟩ := Classical.epsilon_spec (p := is_sh pp ss p) ⟨t, h1, h2, h3, h4⟩
  generalize Classical.epsilon (is_sh pp ss p) = z at y1 y2 y3 y4
  by_cases hz : z < t
  · have := h4 z y1 hz
    omega
  · by_cases hy : t < z
    · have := y4 t h1 hy
      omega
    · omega
/-- where there is a share, it is the least number that brings the cost together -/
theorem s_sh_spec {pp ss : TT} {p : Int} (hh : ¬ s_tg pp ss p 9999 < ss 6 p) (hc : 1 ≤ ss 6 p) : ∃ t, s_sh pp ss p = t ∧ 1 ≤ t ∧ t ≤ 9999 ∧ ss 6 p ≤ s_tg pp ss p t ∧ ∀ x, 1 ≤ x → x < t → s_tg pp ss p x < ss 6 p := by
  have key : ∀ n : Nat, ∀ t : Int, t.toNat ≤ n → 1 ≤ t → t ≤ 9999 → ss 6 p ≤ s_tg pp ss p t → ∃ t, 1 ≤ t ∧ t ≤ 9999 ∧ ss 6 p ≤ s_tg pp ss p t ∧ ∀ x, 1 ≤ x → x < t → s_tg pp ss p x < ss 6 p := by
    intro n
    induction n with
    | zero => intro t z1 z2; omega
    | succ n ih =>
      intro t z1 z2 z3 z4
      by_cases hx : ∃ x, 1 ≤ x ∧ x < t ∧ ¬ s_tg pp ss p x < ss 6 p
      · obtain ⟨x, y1, y2, y3⟩ := hx
        exact ih x (by omega) y1 (by omega) (by omega)
      · refine ⟨t, z2, z3, z4, fun x y1 y2 => ?_⟩
        by_cases hy : s_tg pp ss p x < ss 6 p
        · exact hy
        · exact absurd ⟨x, y1, y2, hy⟩ hx
  obtain ⟨t, z1, z2, z3, z4⟩ := key _ 9999 (Nat.le_refl _) (by omega) (by omega) (by omega)
  exact ⟨t, s_sh_eq z1 z2 z3 z4, z1, z2, z3, z4⟩
/-! the class: the cost is shared anew until all can pay -/
theorem w32_nat {i : Nat} (h : i < 2000000000) : w32 ((i : Int) + 1) = ((i + 1 : Nat) : Int) := w32_id (by omega) (by omega)
def f_sA (ss : TT) (p x y v : Int) : Int := if ss 9 (12 * v + p) = 0 then 0 else if ss 4 v < x then ss 4 v else y
def f_sL (ss : TT) (p x v : Int) : Int := if ss 9 (12 * v + p) = 0 then 0 else if ss 4 v < x then ss 4 v else 0
def f_sO (ss : TT) (p x v : Int) : Int := if ss 9 (12 * v + p) = 0 then 0 else if ss 4 v < x then 0 else 1
def f_sC (ss : TT) (p x v : Int) : Int := if ss 9 (12 * v + p) = 0 then 0 else if ss 4 v < x then 1 else 0
section
variable {pp ss : TT} {p x x' y : Int}
theorem sA_lin {n : Nat} : sm (f_sA ss p x y) n = sm (f_sL ss p x) n + sm (f_sO ss p x) n * y := by
  refine sm_lin (fun i hi => ?_)
  unfold f_sA f_sL f_sO
  split
  · omega
  · split <;> omega
theorem sA_up {n : Nat} (hy : x ≤ y) : sm (f_tg ss p y) n ≤ sm (f_sA ss p x y) n := by
  refine sm_mono (fun i hi => ?_)
  unfold f_tg f_sA
  split
  · omega
  · split <;> omega
theorem sA_at {n : Nat} : sm (f_tg ss p x) n = sm (f_sA ss p x x) n := by
  refine sm_congr (fun i hi => ?_)
  unfold f_tg f_sA
  split
  · rfl
  · split <;> omega
theorem sA_dn {n : Nat} (hx : x' ≤ x) : sm (f_sA ss p x (x - 1)) n ≤ sm (f_sA ss p x' (x - 1)) n := by
  refine sm_mono (fun i hi => ?_)
  unfold f_sA
  split
  · omega
  · split <;> split <;> omega
theorem sC_step {n : Nat} (hx : x' ≤ x) : sm (f_sC ss p x') n + 1 ≤ sm (f_sC ss p x) n ∨ ∀ y, sm (f_sA ss p x y) n = sm (f_sA ss p x' y) n := by
  by_cases hh : ∃ i : Nat, i < n ∧ ss 9 (12 * (i : Int) + p) ≠ 0 ∧ x' ≤ ss 4 (i : Int) ∧ ss 4 (i : Int) < x
  · left
    refine sm_strict (fun i hi => ?_) ?_
    · unfold f_sC
      split
      · omega
      · split <;> split <;> omega
    · obtain ⟨i, y1, y2, y3, y4⟩ := hh
      refine ⟨i, y1, ?_⟩
      unfold f_sC
      rw [if_neg y2, if_neg y2, if_neg (by omega), if_pos y4]
      omega
  · right
    intro y
    refine sm_congr (fun i hi => ?_)
    unfold f_sA
    split
    · rfl
    · rename_i hz
      have : ¬ (x' ≤ ss 4 (i : Int) ∧ ss 4 (i : Int) < x) := fun z => hh ⟨i, hi, hz, z.1, z.2⟩
      split <;> split <;> omega
theorem sCO {n : Nat} : sm (f_sC ss p x) n + sm (f_sO ss p x) n ≤ (n : Int) := by
  have e : ∀ n : Nat, sm (f_sC ss p x) n + sm (f_sO ss p x) n ≤ (n : Int) := by
    intro n
    induction n with
    | zero => exact Int.le_refl _
    | succ n ih =>
      show sm (f_sC ss p x) n + f_sC ss p x (n : Int) + (sm (f_sO ss p x) n + f_sO ss p x (n : Int)) ≤ ((n + 1 : Nat) : Int)
      have : f_sC ss p x (n : Int) + f_sO ss p x (n : Int) ≤ 1 := by
        unfold f_sC f_sO
        split
        · omega
        · split <;> omega
      omega
  exact e n
end
/-- a round: what is needed of each of those who hold enough -/
theorem sh_need {R O : Int} (hR : 1 ≤ R) (hO : 1 ≤ O) : R ≤ O * ((R + O - 1) / O) ∧ O * ((R + O - 1) / O - 1) < R ∧ 1 ≤ (R + O - 1) / O := by
  have z1 := Int.mul_ediv_add_emod (R + O - 1) O
  have z2 := Int.emod_nonneg (R + O - 1) (b := O) (by omega)
  have z3 := Int.emod_lt_of_pos (R + O - 1) (b := O) (by omega)
  have z4 : O * ((R + O - 1) / O - 1) = O * ((R + O - 1) / O) - O := by rw [Int.mul_sub, Int.mul_one]
  refine ⟨by omega, by omega, ?_⟩
  refine (Int.le_ediv_iff_mul_le (by omega)).mpr ?_
  omega
set_option maxHeartbeats 4000000 in
theorem c62 {d : Nat} {h : AH} {a q p : Int} {pp ss : TT} {K : AK} (c : CC h a q pp ss) (h0 : 0 ≤ p) (h1 : p < pp 1 0) (k : K 0 (s_sh pp ss p) h) : am_call (d + 2) 62 [(2, a), (0, p)] h K := by
  have np := c.I.np
  have nv := c.I.nv
  have e1 := c.cost h0 h1
  have bc := c.S.cost h0 h1
  have ecf : s_cf pp ss p = s_tg pp ss p 9999 := by
    refine sm_congr (fun i hi => ?_)
    unfold f_cf f_tg
    have := c.S.purse (i := (i : Int)) (by omega) (by omega)
    split <;> omega
  refine v62 ?_
  simp only [c.P.t, c.P.f5, c.P.f3, c.P.t1, c.P.l1, c.P.f4, c.P.t2, c.P.l2, c.P.f8, c.P.t3, c.P.l3, c.P.f9, c.P.t4, c.P.l4, c.P.f10, c.P.t5, c.P.l5, c.P.f11, c.P.t6, c.P.l6, c.P.f12, c.P.t7, c.P.l7, c.P.f13, c.P.t8, c.P.l8, c.Q.t, c.Q.f6, c.Q.t1, c.Q.l1, c.Q.f7, c.Q.t2, c.Q.l2, c.Q.f8, c.Q.t3, c.Q.l3, c.Q.f9, c.Q.t4, c.Q.l4, c.Q.f10, c.Q.t5, c.Q.l5, c.Q.f11, c.Q.t6, c.Q.l6, c.Q.f12, c.Q.t7, c.Q.l7, c.Q.f13, c.Q.t8, c.Q.l8, c.Q.f14, c.Q.t9, c.Q.l9, c.nw, c.np, c.nv, c.nb, c.yr, c.bud, c.pot, c.pd, true_and]
  refine c61 c h0 h1 ?_
  rw [ecf]
  show _ ∧ _
  simp only [c.P.t, c.P.f5, c.P.f3, c.P.t1, c.P.l1, c.P.f4, c.P.t2, c.P.l2, c.P.f8, c.P.t3, c.P.l3, c.P.f9, c.P.t4, c.P.l4, c.P.f10, c.P.t5, c.P.l5, c.P.f11, c.P.t6, c.P.l6, c.P.f12, c.P.t7, c.P.l7, c.P.f13, c.P.t8, c.P.l8, c.Q.t, c.Q.f6, c.Q.t1, c.Q.l1, c.Q.f7, c.Q.t2, c.Q.l2, c.Q.f8, c.Q.t3, c.Q.l3, c.Q.f9, c.Q.t4, c.Q.l4, c.Q.f10, c.Q.t5, c.Q.l5, c.Q.f11, c.Q.t6, c.Q.l6, c.Q.f12, c.Q.t7, c.Q.l7, c.Q.f13, c.Q.t8, c.Q.l8, c.Q.f14, c.Q.t9, c.Q.l9, c.nw, c.np, c.nv, c.nb, c.yr, c.bud, c.pot, c.pd, e1, true_and]
  refine ⟨⟨h0, by omega⟩, fun z => ?_, fun z => ?_⟩
  · rw [s_sh, if_pos z] at k
    exact k
  · obtain ⟨t, et, t1, t2, t3, t4⟩ := s_sh_spec z bc.1
    rw [et] at k
    suffices H : ∀ n : Nat, ∀ (x : Int) (r : Nat) (y4 y5 y6 : AV), 13 ≤ r + n → 0 ≤ x → x ≤ t → r ≤ 13 → ((r = 0 ∧ x = 0) ∨ (1 ≤ r ∧ 1 ≤ x ∧ ∃ x', x' ≤ x ∧ (r : Int) ≤ sm (f_sC ss p x') (pp 2 0).toNat + 1 ∧ sm (f_sA ss p x' (x - 1)) (pp 2 0).toNat < ss 6 p ∧ ss 6 p ≤ sm (f_sA ss p x' x) (pp 2 0).toNat)) → WP (d + 2) 62 (20, [(2, a), (0, p), (0, x), (0, (r : Int)), y4, y5, y6], [], h, 0, 0) K by
      exact H 13 0 0 _ _ _ (by omega) (by omega) (by omega) (by omega) (Or.inl ⟨rfl, rfl⟩)
    have tg0 : s_tg pp ss p 0 = 0 := by
      have : ∀ n : Nat, n ≤ (pp 2 0).toNat → sm (f_tg ss p 0) n = 0 := by
        intro n
        induction n with
        | zero => intro _; rfl
        | succ n ih =>
          intro hn
          show sm (f_tg ss p 0) n + f_tg ss p 0 (n : Int) = 0
          rw [ih (by omega)]
          have := c.S.purse (i := (n : Int)) (by omega) (by omega)
          unfold f_tg
          split <;> omega
      exact this _ (Nat.le_refl _)
    intro n
    induction n with
    | zero =>
      intro x r y4 y5 y6 hn x0 xt hr hJ
      exfalso
      rcases hJ with hJ | ⟨j1, j2, x', j3, j4, j5, j6⟩
      · omega
      · have z1 := sCO (ss := ss) (p := p) (x := x') (n := (pp 2 0).toNat)
        have z2 : 0 ≤ sm (f_sO ss p x') (pp 2 0).toNat := (sm_bd (f := f_sO ss p x') (B := 1) (fun i hi => by unfold f_sO; split <;> (try split) <;> omega)).1
        have z3 : sm (f_sO ss p x') (pp 2 0).toNat = 0 := by omega
        rw [sA_lin, z3] at j5 j6
        omega
    | succ n ih =>
      intro x r y4 y5 y6 hn x0 xt hr hJ
      have eN : (((pp 2 0).toNat : Nat) : Int) = pp 2 0 := by omega
      have bL : ∀ i : Nat, i ≤ (pp 2 0).toNat → 0 ≤ sm (f_sL ss p x) i ∧ sm (f_sL ss p x) i ≤ 9999 * (i : Int) := fun i hi => sm_bd (f := f_sL ss p x) (B := 9999) (fun j hj => by
        unfold f_sL
        have := c.S.purse (i := (j : Int)) (by omega) (by omega)
        split
        · omega
        · split <;> omega)
      have bO : ∀ i : Nat, i ≤ (pp 2 0).toNat → 0 ≤ sm (f_sO ss p x) i ∧ sm (f_sO ss p x) i ≤ 1 * (i : Int) := fun i hi => sm_bd (f := f_sO ss p x) (B := 1) (fun j hj => by
        unfold f_sO
        split
        · omega
        · split <;> omega)
      refine v62_20 ⟨fun z9 => absurd z9 (by omega), fun _ => ?_⟩
      simp only [c.P.t, c.P.f5, c.P.f3, c.P.t1, c.P.l1, c.P.f4, c.P.t2, c.P.l2, c.P.f8, c.P.t3, c.P.l3, c.P.f9, c.P.t4, c.P.l4, c.P.f10, c.P.t5, c.P.l5, c.P.f11, c.P.t6, c.P.l6, c.P.f12, c.P.t7, c.P.l7, c.P.f13, c.P.t8, c.P.l8, c.Q.t, c.Q.f6, c.Q.t1, c.Q.l1, c.Q.f7, c.Q.t2, c.Q.l2, c.Q.f8, c.Q.t3, c.Q.l3, c.Q.f9, c.Q.t4, c.Q.l4, c.Q.f10, c.Q.t5, c.Q.l5, c.Q.f11, c.Q.t6, c.Q.l6, c.Q.f12, c.Q.t7, c.Q.l7, c.Q.f13, c.Q.t8, c.Q.l8, c.Q.f14, c.Q.t9, c.Q.l9, c.nw, c.np, c.nv, c.nb, c.yr, c.bud, c.pot, c.pd, e1, true_and]
      refine ⟨⟨h0, by omega⟩, ?_⟩
      have hl := lp_up (d := d + 2) (m := 62) (K := K) (fun i => (40, [(2, a), (0, p), (0, x), (0, (r : Int)), (0, ss 6 p - sm (f_sL ss p x) i), (0, sm (f_sO ss p x) i), (0, (i : Int))], [], h, 0, 0)) (pp 2 0).toNat (fun i hi ih2 => ?_) ?_
      · have hl : WP (d + 2) 62 (40, [(2, a), (0, p), (0, x), (0, (r : Int)), (0, ss 6 p - 0), (0, 0), (0, 0)], [], h, 0, 0) K := hl
        rw [Int.sub_zero] at hl
        exact hl
      · have e2 := c.purse (i := (i : Int)) (by omega) (by omega)
        have b2 := c.S.purse (i := (i : Int)) (by omega) (by omega)
        have bl := bL i (by omega)
        have bo := bO i (by omega)
        have ih2 : WP (d + 2) 62 (40, [(2, a), (0, p), (0, x), (0, (r : Int)), (0, ss 6 p - (sm (f_sL ss p x) i + f_sL ss p x (i : Int))), (0, sm (f_sO ss p x) i + f_sO ss p x (i : Int)), (0, ((i + 1 : Nat) : Int))], [], h, 0, 0) K := ih2
        refine v62_40 ?_
        simp only [c.P.t, c.P.f5, c.P.f3, c.P.t1, c.P.l1, c.P.f4, c.P.t2, c.P.l2, c.P.f8, c.P.t3, c.P.l3, c.P.f9, c.P.t4, c.P.l4, c.P.f10, c.P.t5, c.P.l5, c.P.f11, c.P.t6, c.P.l6, c.P.f12, c.P.t7, c.P.l7, c.P.f13, c.P.t8, c.P.l8, c.Q.t, c.Q.f6, c.Q.t1, c.Q.l1, c.Q.f7, c.Q.t2, c.Q.l2, c.Q.f8, c.Q.t3, c.Q.l3, c.Q.f9, c.Q.t4, c.Q.l4, c.Q.f10, c.Q.t5, c.Q.l5, c.Q.f11, c.Q.t6, c.Q.l6, c.Q.f12, c.Q.t7, c.Q.l7, c.Q.f13, c.Q.t8, c.Q.l8, c.Q.f14, c.Q.t9, c.Q.l9, c.nw, c.np, c.nv, c.nb, c.yr, c.bud, c.pot, c.pd, true_and]
        refine ⟨fun _ => c59 c (v := (i : Int)) (by omega) (by omega) h0 h1 ?_, fun z9 => absurd (show (i : Int) < pp 2 0 by omega) z9⟩
        refine ⟨fun z9 => ?_, fun z9 => ?_⟩
        · rw [w32_nat (by omega)]
          rw [show f_sL ss p x (i : Int) = 0 from if_pos z9, show f_sO ss p x (i : Int) = 0 from if_pos z9, Int.add_zero, Int.add_zero] at ih2
          exact ih2
        · simp only [c.P.t, c.P.f5, c.P.f3, c.P.t1, c.P.l1, c.P.f4, c.P.t2, c.P.l2, c.P.f8, c.P.t3, c.P.l3, c.P.f9, c.P.t4, c.P.l4, c.P.f10, c.P.t5, c.P.l5, c.P.f11, c.P.t6, c.P.l6, c.P.f12, c.P.t7, c.P.l7, c.P.f13, c.P.t8, c.P.l8, c.Q.t, c.Q.f6, c.Q.t1, c.Q.l1, c.Q.f7, c.Q.t2, c.Q.l2, c.Q.f8, c.Q.t3, c.Q.l3, c.Q.f9, c.Q.t4, c.Q.l4, c.Q.f10, c.Q.t5, c.Q.l5, c.Q.f11, c.Q.t6, c.Q.l6, c.Q.f12, c.Q.t7, c.Q.l7, c.Q.f13, c.Q.t8, c.Q.l8, c.Q.f14, c.Q.t9, c.Q.l9, c.nw, c.np, c.nv, c.nb, c.yr, c.bud, c.pot, c.pd, e2, true_and]
          refine ⟨⟨by omega, by omega⟩, fun z8 => ⟨⟨by omega, by omega⟩, ?_⟩, fun z8 => ?_⟩
          · rw [w32_nat (by omega), w32_id (by omega) (by omega)]
            rw [show f_sL ss p x (i : Int) = ss 4 (i : Int) from (if_neg z9).trans (if_pos z8), show f_sO ss p x (i : Int) = 0 from (if_neg z9).trans (if_pos z8), Int.add_zero, ← Int.sub_sub] at ih2
            exact ih2
          · rw [w32_nat (by omega), w32_id (x := sm (f_sO ss p x) i + 1) (by omega) (by omega)]
            rw [show f_sL ss p x (i : Int) = 0 from (if_neg z9).trans (if_neg z8), show f_sO ss p x (i : Int) = 1 from (if_neg z9).trans (if_neg z8), Int.add_zero] at ih2
            exact ih2
      · have bl := bL _ (Nat.le_refl _)
        have bo := bO _ (Nat.le_refl _)
        have hco := sCO (ss := ss) (p := p) (x := x) (n := (pp 2 0).toNat)
        have hB : ss 6 p ≤ sm (f_sA ss p x t) (pp 2 0).toNat := Int.le_trans t3 (sA_up xt)
        have hX : s_tg pp ss p x = sm (f_sA ss p x x) (pp 2 0).toNat := sA_at
        have hJ2 : (r = 0 ∧ x = 0 ∧ sm (f_sA ss p x x) (pp 2 0).toNat = 0) ∨ (1 ≤ r ∧ 1 ≤ x ∧ sm (f_sA ss p x (x - 1)) (pp 2 0).toNat < ss 6 p ∧ ((r : Int) ≤ sm (f_sC ss p x) (pp 2 0).toNat ∨ ss 6 p ≤ sm (f_sA ss p x x) (pp 2 0).toNat)) := by
          rcases hJ with ⟨j1, j2⟩ | ⟨j1, j2, x', j3, j4, j5, j6⟩
          · left
            subst j2
            exact ⟨j1, rfl, by rw [← hX, tg0]⟩
          · right
            refine ⟨j1, j2, Int.lt_of_le_of_lt (sA_dn j3) j5, ?_⟩
            rcases sC_step (ss := ss) (p := p) (n := (pp 2 0).toNat) j3 with y1 | y1
            · left
              omega
            · right
              rw [y1]
              exact j6
        clear hJ
        have ext : x = t → s_sh pp ss p = x := fun z9 => by rw [et, z9]
        simp only [sA_lin] at hB hX hJ2
        refine v62_40 ?_
        simp only [c.P.t, c.P.f5, c.P.f3, c.P.t1, c.P.l1, c.P.f4, c.P.t2, c.P.l2, c.P.f8, c.P.t3, c.P.l3, c.P.f9, c.P.t4, c.P.l4, c.P.f10, c.P.t5, c.P.l5, c.P.f11, c.P.t6, c.P.l6, c.P.f12, c.P.t7, c.P.l7, c.P.f13, c.P.t8, c.P.l8, c.Q.t, c.Q.f6, c.Q.t1, c.Q.l1, c.Q.f7, c.Q.t2, c.Q.l2, c.Q.f8, c.Q.t3, c.Q.l3, c.Q.f9, c.Q.t4, c.Q.l4, c.Q.f10, c.Q.t5, c.Q.l5, c.Q.f11, c.Q.t6, c.Q.l6, c.Q.f12, c.Q.t7, c.Q.l7, c.Q.f13, c.Q.t8, c.Q.l8, c.Q.f14, c.Q.t9, c.Q.l9, c.nw, c.np, c.nv, c.nb, c.yr, c.bud, c.pot, c.pd, true_and]
        refine ⟨fun z9 => absurd z9 (by omega), fun _ => ?_⟩
        obtain ⟨LL, eL⟩ : ∃ LL, LL = sm (f_sL ss p x) (pp 2 0).toNat := ⟨_, rfl⟩
        obtain ⟨OO, eO⟩ : ∃ OO, OO = sm (f_sO ss p x) (pp 2 0).toNat := ⟨_, rfl⟩
        rw [← eL, ← eO] at hB hX hJ2
        rw [← eL] at bl
        rw [← eO] at bo hco
        rw [← eL, ← eO]
        have hL : LL < ss 6 p := by
          rcases hJ2 with ⟨-, j2, j3⟩ | ⟨-, j2, j3, -⟩
          · subst j2
            omega
          · have := Int.mul_nonneg bo.1 (show 0 ≤ x - 1 by omega)
            omega
        refine ⟨fun z9 => ?_, fun z9 => ⟨z9, ?_⟩⟩
        · exfalso
          rw [z9] at hB
          omega
        · obtain ⟨n1, n2, n3⟩ := sh_need (R := ss 6 p - LL) (O := OO) (by omega) (by omega)
          have en : w32 ((w32 (w32 (ss 6 p - LL + OO) - 1)).tdiv OO) = (ss 6 p - LL + OO - 1) / OO := by
            rw [w32_id (x := ss 6 p - LL + OO) (by omega) (by omega), w32_id (x := ss 6 p - LL + OO - 1) (by omega) (by omega), Int.tdiv_eq_ediv_of_nonneg (by omega)]
            have y1 : (ss 6 p - LL + OO - 1) / OO ≤ ss 6 p - LL + OO - 1 := Int.ediv_le_self _ (by omega)
            exact w32_id (by omega) (by omega)
          rw [en]
          clear en
          obtain ⟨nd, eD⟩ : ∃ nd, nd = (ss 6 p - LL + OO - 1) / OO := ⟨_, rfl⟩
          rw [← eD] at n1 n2 n3 ⊢
          have e4 : OO * (nd - 1) = OO * nd - OO := by rw [Int.mul_sub, Int.mul_one]
          have mm : ∀ y1 y2 : Int, y1 ≤ y2 → OO * y1 ≤ OO * y2 := fun y1 y2 hy => Int.mul_le_mul_of_nonneg_left hy bo.1
          have ndt : nd ≤ t := by
            by_cases hy : nd ≤ t
            · exact hy
            · have := mm t (nd - 1) (by omega)
              omega
          refine ⟨fun z8 => ?_, fun z8 => ?_⟩
          · have hxt : x = t := by
              by_cases hy : x = t
              · exact hy
              · have y1 := t4 x (by omega) (by omega)
                rw [← z8] at hX y1
                omega
            rw [← hxt] at k
            exact k
          · rw [w32_nat (by omega)]
            have hxn : x ≤ nd := by
              rcases hJ2 with ⟨-, j2, -⟩ | ⟨-, j2, j3, -⟩
              · omega
              · by_cases hy : x ≤ nd
                · exact hy
                · have := mm nd (x - 1) (by omega)
                  omega
            have hrc : (r : Int) ≤ sm (f_sC ss p x) (pp 2 0).toNat := by
              rcases hJ2 with ⟨j1, -⟩ | ⟨-, j2, j3, j4⟩
              · have := (sm_bd (f := f_sC ss p x) (B := 1) (n := (pp 2 0).toNat) (fun i hi => by unfold f_sC; split <;> (try split) <;> omega)).1
                omega
              · rcases j4 with j4 | j4
                · exact j4
                · exfalso
                  have := mm x (nd - 1) (by omega)
                  omega
            refine ih nd (r + 1) _ _ _ (by omega) (by omega) ndt (by omega) (Or.inr ⟨by omega, n3, x, hxn, by omega, ?_, ?_⟩)
            · rw [sA_lin, ← eL, ← eO]
              omega
            · rw [sA_lin, ← eL, ← eO]
              omega
