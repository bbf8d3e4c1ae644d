/-! ===== the class's grammar: names, values, products, sums ===== -/
theorem cs1 {o : Op} (ho : o.1 ≠ 11) : css [o] = [(o.1, o.2.1)] := by
  show cs o ++ [] = _
  unfold cs
  rw [if_neg ho]
  rfl
section
variable {d D n : Nat} {h0 h : AH} {dq : Int} {kd : Nat → Int} {N i : Nat} {S : List (Int × Int)} {R : List Int} {w : Nat} {K : AK}
theorem c40 {ro c : Int} (hc : c ≠ 11) (hD : 1 ≤ D) (x : XG h0 dq kd N h i S R w) (k : PG h0 dq kd N S R w K (nm kd ro c i)) : am_call D 40 [(2, 27), (0, ro), (0, c)] h K := by
  obtain ⟨d, rfl⟩ : ∃ d, D = d + 1 := ⟨D - 1, by omega⟩
  have k' : PG h0 dq kd N S R w K (if kd i = 256 then .inr (i + 1, [(c, (i : Int), 0)], [ro]) else .inl i) := k
  refine v40 ⟨x.t, x.t, c31b (by decide) x (fun z h2 x2 => ?_) (fun z => ?_)⟩
  · rw [if_pos z] at k'
    refine okx ⟨fun y => absurd y (by decide), fun _ => ⟨x2.t, ?_⟩⟩
    rw [x.po]
    refine c33c x2 (fun h3 x3 => ⟨Or.inr rfl, k' h3 ?_⟩)
    rw [cs1 hc]
    exact x3
  · rw [if_neg z] at k'
    exact okx ⟨fun _ => ⟨Or.inl rfl, k' x.iN h x.f x.po⟩, fun y => absurd rfl y⟩
theorem c41 (hD : 1 ≤ D) (x : XG h0 dq kd N h i S R w) (k : K 0 (gCc (kd i)) h) : am_call D 41 [(2, 27)] h K := by
  obtain ⟨d, rfl⟩ : ∃ d, D = d + 1 := ⟨D - 1, by omega⟩
  unfold gCc at k
  refine v41 ⟨x.t, c29 x (okx ?_)⟩
  refine ⟨fun z => ?_, fun z1 => ⟨fun z => ?_, fun z2 => ⟨fun z => ?_, fun z3 => ⟨fun z => ?_, fun z4 => ⟨fun z => ?_, fun z5 => ?_⟩⟩⟩⟩⟩
  · rw [if_pos z] at k
    exact k
  · rw [if_neg z1, if_pos z] at k
    exact k
  · rw [if_neg z1, if_neg z2, if_pos z] at k
    exact k
  · rw [if_neg z1, if_neg z2, if_neg z3, if_pos z] at k
    exact k
  · rw [if_neg z1, if_neg z2, if_neg z3, if_neg z4, if_pos z] at k
    exact k
  · rw [if_neg z1, if_neg z2, if_neg z3, if_neg z4, if_neg z5] at k
    exact k
/-- what a method does, told by a function, at a depth -/
def CV (m : Nat) (b : Nat) (dp : Int) (f : GF) (kd : Nat → Int) : Prop := ∀ (D : Nat) (h0 h : AH) (dq : Int) (N i : Nat) (S : List (Int × Int)) (R : List Int) (w : Nat) (K : AK), b ≤ D → XG h0 dq kd N h i S R w → PG h0 dq kd N S R w K (f i) → am_call D m [(2, 27), (0, dp)] h K
theorem CV.go {m b : Nat} {dp : Int} {f : GF} (c : CV m b dp f kd) (hD : b ≤ D) (x : XG h0 dq kd N h i S R w) (k : PG h0 dq kd N S R w K (f i)) : am_call D m [(2, 27), (0, dp)] h K := c D h0 h dq N i S R w K hD x k
theorem c43_12 {f : GF} {b : Nat} {dp : Int} (hb : 1 ≤ b) (ci : CV 44 b dp f kd) : ∀ n : Nat, ∀ {i : Nat} {h : AH} {S : List (Int × Int)} {R : List Int} {y3 : AV} (j : Nat), b ≤ d → j + n = 400 → j ≤ i → XG h0 dq kd N h i S R w → PG h0 dq kd N S R w K (gLp kd f 42 14 47 15 n i) → WP (d + 1) 43 (12, [(2, 27), (0, dp), (0, (j : Int)), y3], [], h, 0, 0) K := by
  intro n
  induction n with
  | zero =>
    intro i h S R y3 j hd hj ji x k
    refine v43_12 ⟨fun z => absurd z (by omega), fun _ => ⟨Or.inr rfl, k h ?_⟩⟩
    show XG h0 dq kd N h i (S ++ []) (R ++ []) w
    rw [List.append_nil, List.append_nil]
    exact x
  | succ n ih =>
    intro i h S R y3 j hd hj ji x k
    have k' : PG h0 dq kd N S R w K (if kd i = 42 then bnd (tk kd 42 0 i) fun i => bnd (f i) fun i => bnd (em (14, 0, 0) i) (gLp kd f 42 14 47 15 n) else if kd i = 47 then bnd (tk kd 47 0 i) fun i => bnd (f i) fun i => bnd (em (15, 0, 0) i) (gLp kd f 42 14 47 15 n) else .inr (i, [], [])) := k
    have nx : ∀ (c : Int) (y : AV) (i2 : Nat) h2 S2 R2, c ≠ 11 → i < i2 → XG h0 dq kd N h2 i2 (S2 ++ [(c, 0)]) R2 w → PG h0 dq kd N S2 R2 w K (bnd (em (c, 0, 0) i2) (gLp kd f 42 14 47 15 n)) → WP (d + 1) 43 (12, [(2, 27), (0, dp), (0, w32 ((j : Int) + 1)), y], [], h2, 0, 0) K := fun c y i2 h2 S2 R2 hc hi x2 k2 => by
      rw [w32_nat (by omega)]
      exact ih (j + 1) hd (by omega) (by omega) x2 (PG.es (o := (c, 0, 0)) hc k2)
    refine v43_12 ⟨fun _ => ⟨x.t, c29 x (okx ⟨fun za => ?_, fun za => ?_⟩)⟩, fun z => absurd (show (j : Int) < 400 by omega) z⟩
    · rw [if_pos za] at k'
      exact ⟨x.t, c30b (by decide) (by omega) x (fun _ h3 x3 => okx ⟨fun y => absurd y (by decide), fun _ => ⟨x3.t, ci.go (by omega) x3 (PG.ch (PG.ty za k') fun _ _ _ h5 x5 k5 => ⟨x5.t, c32c (by omega) x5 fun h6 x6 => nx 14 _ _ h6 _ _ (by decide) (x.gt x5) x6 k5⟩)⟩⟩) (fun y => absurd za y)⟩
    · rw [if_neg za] at k'
      refine ⟨x.t, c30b (by decide) (by omega) x (fun y => absurd y za) (fun _ => okx ⟨fun _ => ⟨x.t, c30b (by decide) (by omega) x (fun zb h3 x3 => okx ⟨fun y => absurd y (by decide), fun _ => ⟨x3.t, ?_⟩⟩) (fun zb => okx ⟨fun _ => ⟨Or.inr rfl, ?_⟩, fun y => absurd rfl y⟩)⟩, fun y => absurd rfl y⟩)⟩
      · rw [if_pos zb] at k'
        exact ci.go (by omega) x3 (PG.ch (PG.ty zb k') fun _ _ _ h5 x5 k5 => ⟨x5.t, c32c (by omega) x5 fun h6 x6 => nx 15 _ _ h6 _ _ (by decide) (x.gt x5) x6 k5⟩)
      · rw [if_neg zb] at k'
        refine k' h ?_
        show XG h0 dq kd N h i (S ++ []) (R ++ []) w
        rw [List.append_nil, List.append_nil]
        exact x
theorem c43 {f : GF} {b : Nat} {dp : Int} (hb : 1 ≤ b) (ci : CV 44 b dp f kd) : CV 43 (b + 1) dp (gList kd f 42 14 47 15) kd := by
  intro D h0 h dq N i S R w K hD x k
  obtain ⟨d, rfl⟩ : ∃ d, D = d + 1 := ⟨D - 1, by omega⟩
  exact v43 ⟨x.t, ci.go (by omega) x (PG.ch k fun _ _ _ h2 x2 k2 => c43_12 hb ci 400 0 (by omega) rfl (Nat.zero_le _) x2 k2)⟩
theorem c42_12 {f : GF} {b : Nat} {dp : Int} (hb : 1 ≤ b) (ci : CV 43 b dp f kd) : ∀ n : Nat, ∀ {i : Nat} {h : AH} {S : List (Int × Int)} {R : List Int} {y3 : AV} (j : Nat), b ≤ d → j + n = 400 → j ≤ i → XG h0 dq kd N h i S R w → PG h0 dq kd N S R w K (gLp kd f 43 12 45 13 n i) → WP (d + 1) 42 (12, [(2, 27), (0, dp), (0, (j : Int)), y3], [], h, 0, 0) K := by
  intro n
  induction n with
  | zero =>
    intro i h S R y3 j hd hj ji x k
    refine v42_12 ⟨fun z => absurd z (by omega), fun _ => ⟨Or.inr rfl, k h ?_⟩⟩
    show XG h0 dq kd N h i (S ++ []) (R ++ []) w
    rw [List.append_nil, List.append_nil]
    exact x
  | succ n ih =>
    intro i h S R y3 j hd hj ji x k
    have k' : PG h0 dq kd N S R w K (if kd i = 43 then bnd (tk kd 43 0 i) fun i => bnd (f i) fun i => bnd (em (12, 0, 0) i) (gLp kd f 43 12 45 13 n) else if kd i = 45 then bnd (tk kd 45 0 i) fun i => bnd (f i) fun i => bnd (em (13, 0, 0) i) (gLp kd f 43 12 45 13 n) else .inr (i, [], [])) := k
    have nx : ∀ (c : Int) (y : AV) (i2 : Nat) h2 S2 R2, c ≠ 11 → i < i2 → XG h0 dq kd N h2 i2 (S2 ++ [(c, 0)]) R2 w → PG h0 dq kd N S2 R2 w K (bnd (em (c, 0, 0) i2) (gLp kd f 43 12 45 13 n)) → WP (d + 1) 42 (12, [(2, 27), (0, dp), (0, w32 ((j : Int) + 1)), y], [], h2, 0, 0) K := fun c y i2 h2 S2 R2 hc hi x2 k2 => by
      rw [w32_nat (by omega)]
      exact ih (j + 1) hd (by omega) (by omega) x2 (PG.es (o := (c, 0, 0)) hc k2)
    refine v42_12 ⟨fun _ => ⟨x.t, c29 x (okx ⟨fun za => ?_, fun za => ?_⟩)⟩, fun z => absurd (show (j : Int) < 400 by omega) z⟩
    · rw [if_pos za] at k'
      exact ⟨x.t, c30b (by decide) (by omega) x (fun _ h3 x3 => okx ⟨fun y => absurd y (by decide), fun _ => ⟨x3.t, ci.go (by omega) x3 (PG.ch (PG.ty za k') fun _ _ _ h5 x5 k5 => ⟨x5.t, c32c (by omega) x5 fun h6 x6 => nx 12 _ _ h6 _ _ (by decide) (x.gt x5) x6 k5⟩)⟩⟩) (fun y => absurd za y)⟩
    · rw [if_neg za] at k'
      refine ⟨x.t, c30b (by decide) (by omega) x (fun y => absurd y za) (fun _ => okx ⟨fun _ => ⟨x.t, c30b (by decide) (by omega) x (fun zb h3 x3 => okx ⟨fun y => absurd y (by decide), fun _ => ⟨x3.t, ?_⟩⟩) (fun zb => okx ⟨fun _ => ⟨Or.inr rfl, ?_⟩, fun y => absurd rfl y⟩)⟩, fun y => absurd rfl y⟩)⟩
      · rw [if_pos zb] at k'
        exact ci.go (by omega) x3 (PG.ch (PG.ty zb k') fun _ _ _ h5 x5 k5 => ⟨x5.t, c32c (by omega) x5 fun h6 x6 => nx 13 _ _ h6 _ _ (by decide) (x.gt x5) x6 k5⟩)
      · rw [if_neg zb] at k'
        refine k' h ?_
        show XG h0 dq kd N h i (S ++ []) (R ++ []) w
        rw [List.append_nil, List.append_nil]
        exact x
theorem c42 {f : GF} {b : Nat} {dp : Int} (hb : 1 ≤ b) (ci : CV 43 b dp f kd) : CV 42 (b + 1) dp (gList kd f 43 12 45 13) kd := by
  intro D h0 h dq N i S R w K hD x k
  obtain ⟨d, rfl⟩ : ∃ d, D = d + 1 := ⟨D - 1, by omega⟩
  exact v42 ⟨x.t, ci.go (by omega) x (PG.ch k fun _ _ _ h2 x2 k2 => c42_12 hb ci 400 0 (by omega) rfl (Nat.zero_le _) x2 k2)⟩
/-- what stands one depth deeper -/
def LV (kd : Nat → Int) (b : Nat) (dp : Int) : Option (GF × GF) → Prop
  | none => dp = 8
  | some v => (0 ≤ dp ∧ dp < 8) ∧ CV 44 b (dp + 1) v.1 kd ∧ CV 42 b (dp + 1) v.2 kd
theorem LV.bd {b : Nat} {dp : Int} : ∀ {lv : Option (GF × GF)}, LV kd b dp lv → 0 ≤ dp ∧ dp ≤ 8
  | none, x => by
    have x' : dp = 8 := x
    omega
  | some v, x => by
    have x' := x.1
    omega
theorem c45 {b : Nat} {dp : Int} (hb : 1 ≤ b) {lv : Option (GF × GF)} (hl : LV kd b dp lv) (hD : b + 1 ≤ D) (x : XG h0 dq kd N h i S R w) (k : PG h0 dq kd N S R w K (gPair kd lv i)) : am_call D 45 [(2, 27), (0, dp)] h K := by
  obtain ⟨d, rfl⟩ : ∃ d, D = d + 1 := ⟨D - 1, by omega⟩
  have bd := hl.bd
  refine v45 ?_
  rw [w32_id (x := dp + 1) (by omega) (by omega)]
  cases lv with
  | none =>
    have e : dp = 8 := hl
    exact ⟨fun z => absurd z (by omega), fun _ => ⟨Or.inl rfl, k x.iN h x.f x.po⟩⟩
  | some v =>
    obtain ⟨hl1, hl2, hl3⟩ := hl
    exact ⟨fun _ => ⟨x.t, c30 (by decide) (by omega) x (PG.ch k fun _ _ _ _ x k => ⟨x.t, hl3.go (by omega) x (PG.ch k fun _ _ _ _ x k => ⟨x.t, c30 (by decide) (by omega) x (PG.ch k fun _ _ _ _ x k => ⟨x.t, hl3.go (by omega) x (PG.ch k fun _ _ _ _ x k => ⟨x.t, c30 (by decide) (by omega) x (PG.la (by omega) k)⟩)⟩)⟩)⟩)⟩, fun z => absurd hl1.2 z⟩
theorem c44 {b : Nat} {dp : Int} (hb : 1 ≤ b) {lv : Option (GF × GF)} (hl : LV kd b dp lv) : CV 44 (b + 2) dp (gVal kd lv) kd := by
  intro D h0 h dq N i S R w K hD x k
  obtain ⟨d, rfl⟩ : ∃ d, D = d + 1 := ⟨D - 1, by omega⟩
  have bd := hl.bd
  unfold gVal at k
  refine v44 ?_
  rw [w32_id (x := dp + 1) (by omega) (by omega)]
  refine ⟨x.t, x.t, c29 x (okx ⟨fun z => ?_, fun z1 => ⟨fun z => ?_, fun z2 => ⟨fun z => ?_, fun z3 => ⟨fun z => ?_, fun z4 => ⟨fun z => ?_, fun z5 => ⟨fun z => ?_, fun z6 => ⟨fun z => ?_, fun z7 => ⟨fun z => ?_, fun z8 => ⟨fun z => ?_, fun z9 => ⟨fun z => ?_, fun z10 => ⟨fun z => ?_, fun z11 => ?_⟩⟩⟩⟩⟩⟩⟩⟩⟩⟩⟩)⟩
  · rw [if_pos z] at k
    cases lv with
    | none =>
      have e : dp = 8 := hl
      exact ⟨fun z => absurd z (by omega), fun _ => ⟨Or.inl rfl, k x.iN h x.f x.po⟩⟩
    | some v =>
      obtain ⟨hl1, hl2, hl3⟩ := hl
      exact ⟨fun _ => ⟨x.t, c30 (by decide) (by omega) x (PG.ch k fun _ _ _ _ x k => ⟨x.t, hl3.go (by omega) x (PG.ch k fun _ _ _ _ x k => ⟨x.t, c30 (by decide) (by omega) x (PG.la (by omega) k)⟩)⟩)⟩, fun z => absurd hl1.2 z⟩
  · rw [if_neg z1, if_pos z] at k
    cases lv with
    | none =>
      have e : dp = 8 := hl
      exact ⟨fun z => absurd z (by omega), fun _ => ⟨Or.inl rfl, k x.iN h x.f x.po⟩⟩
    | some v =>
      obtain ⟨hl1, hl2, hl3⟩ := hl
      exact ⟨fun _ => ⟨x.t, c30 (by decide) (by omega) x (PG.ch k fun _ _ _ _ x k => ⟨x.t, hl2.go (by omega) x (PG.ch k fun _ _ _ _ x k => ⟨x.t, c32e (by decide) (by omega) x k⟩)⟩)⟩, fun z => absurd hl1.2 z⟩
  · rw [if_neg z1, if_neg z2, if_pos z] at k
    refine ⟨x.t, c31b (by decide) x (fun _ h2 x2 => okx ⟨fun y => absurd y (by decide), fun _ => ⟨x2.t, ?_⟩⟩) (fun y => absurd z y)⟩
    rw [x.po]
    refine c33c x2 (fun h3 x3 => ⟨Or.inr rfl, k h3 ?_⟩)
    rw [cs1 (show (1 : Int) ≠ 11 by decide)]
    exact x3
  · rw [if_neg z1, if_neg z2, if_neg z3, if_pos z] at k
    exact ⟨x.t, c30 (by decide) (by omega) x (PG.ch k fun _ _ _ _ x k => ⟨x.t, c40 (by decide) (by omega) x (PG.la (by omega) k)⟩)⟩
  · rw [if_neg z1, if_neg z2, if_neg z3, if_neg z4, if_pos z] at k
    exact ⟨x.t, c30 (by decide) (by omega) x (PG.ch k fun _ _ _ _ x k => ⟨x.t, c32e (by decide) (by omega) x k⟩)⟩
  · rw [if_neg z1, if_neg z2, if_neg z3, if_neg z4, if_neg z5, if_pos z] at k
    exact ⟨x.t, c30 (by decide) (by omega) x (PG.ch k fun _ _ _ _ x k => ⟨x.t, c32e (by decide) (by omega) x k⟩)⟩
  · rw [if_neg z1, if_neg z2, if_neg z3, if_neg z4, if_neg z5, if_neg z6, if_pos z] at k
    exact ⟨x.t, c30 (by decide) (by omega) x (PG.ch k fun _ _ _ _ x k => ⟨x.t, c40 (by decide) (by omega) x (PG.la (by omega) k)⟩)⟩
  · rw [if_neg z1, if_neg z2, if_neg z3, if_neg z4, if_neg z5, if_neg z6, if_neg z7, if_pos z] at k
    exact ⟨x.t, c30 (by decide) (by omega) x (PG.ch k fun _ _ _ _ x k => ⟨x.t, c40 (by decide) (by omega) x (PG.la (by omega) k)⟩)⟩
  · rw [if_neg z1, if_neg z2, if_neg z3, if_neg z4, if_neg z5, if_neg z6, if_neg z7, if_neg z8, if_pos z] at k
    exact ⟨x.t, c30 (by decide) (by omega) x (PG.ch k fun _ _ _ _ x k => ⟨x.t, c40 (by decide) (by omega) x (PG.la (by omega) k)⟩)⟩
  · rw [if_neg z1, if_neg z2, if_neg z3, if_neg z4, if_neg z5, if_neg z6, if_neg z7, if_neg z8, if_neg z9, if_pos z] at k
    exact ⟨x.t, c30 (by decide) (by omega) x (PG.ch k fun _ _ _ _ x k => ⟨x.t, c45 hb hl (by omega) x (PG.ch k fun _ _ _ _ x k => ⟨x.t, c32e (by decide) (by omega) x k⟩)⟩)⟩
  · rw [if_neg z1, if_neg z2, if_neg z3, if_neg z4, if_neg z5, if_neg z6, if_neg z7, if_neg z8, if_neg z9, if_neg z10, if_pos z] at k
    exact ⟨x.t, c30 (by decide) (by omega) x (PG.ch k fun _ _ _ _ x k => ⟨x.t, c45 hb hl (by omega) x (PG.ch k fun _ _ _ _ x k => ⟨x.t, c32e (by decide) (by omega) x k⟩)⟩)⟩
  · rw [if_neg z1, if_neg z2, if_neg z3, if_neg z4, if_neg z5, if_neg z6, if_neg z7, if_neg z8, if_neg z9, if_neg z10, if_neg z11] at k
    exact ⟨Or.inl rfl, k x.iN h x.f x.po⟩
theorem c_lv : ∀ n : Nat, n ≤ 8 → LV kd (5 * n + 1) (8 - (n : Int)) (gLv kd n)
  | 0, _ => by
    show (8 : Int) - ((0 : Nat) : Int) = 8
    omega
  | n + 1, hn => by
    have ih := c_lv n (by omega)
    have c1 := c44 (by omega) ih
    have c2 := c42 (by omega) (c43 (by omega) c1)
    have e : 8 - ((n + 1 : Nat) : Int) + 1 = 8 - (n : Int) := by omega
    refine ⟨by omega, ?_, ?_⟩
    · rw [e]
      intro D h0 h dq N i S R w K hD
      exact c1 D h0 h dq N i S R w K (by omega)
    · rw [e]
      intro D h0 h dq N i S R w K hD
      exact c2 D h0 h dq N i S R w K (by omega)
/-- a sum -/
theorem c_su {n : Nat} (hn : n ≤ 8) : CV 42 (5 * n + 5) (8 - (n : Int)) (gS kd n) kd := c42 (by omega) (c43 (by omega) (c44 (by omega) (c_lv n hn)))
end
