/-! ===== the class's grammar: tests ===== -/
theorem gCc_rg {z : Int} (x : gCc z ≠ 0) : z ≠ 260 ∧ z ≠ 261 := by
  constructor
  · intro e
    subst e
    exact x (by decide)
  · intro e
    subst e
    exact x (by decide)
theorem gCc_11 {z : Int} : gCc z ≠ 11 := by
  unfold gCc
  repeat' split
  all_goals decide
section
variable {d D n : Nat} {h0 h : AH} {dq : Int} {kd : Nat → Int} {N i : Nat} {S : List (Int × Int)} {R : List Int} {w : Nat} {K : AK}
theorem c40b {ro c : Int} (hD : 1 ≤ D) (x : XG h0 dq kd N h i S R w) (kY : kd i = 256 → ∀ h2, XG h0 dq kd N h2 (i + 1) (S ++ [(c, (i : Int))]) (R ++ [ro]) w → K 0 1 h2) (kN : kd i ≠ 256 → K 0 0 h) : am_call D 40 [(2, 27), (0, ro), (0, c)] h K := by
  obtain ⟨d, rfl⟩ : ∃ d, D = d + 1 := ⟨D - 1, by omega⟩
  refine v40 ⟨x.t, x.t, c31b (by decide) x (fun z h2 x2 => ?_) (fun z => ?_)⟩
  · refine okx ⟨fun y => absurd y (by decide), fun _ => ⟨x2.t, ?_⟩⟩
    rw [x.po]
    exact c33c x2 (fun h3 x3 => ⟨Or.inr rfl, kY z h3 x3⟩)
  · exact okx ⟨fun _ => ⟨Or.inl rfl, kN z⟩, fun y => absurd rfl y⟩
theorem c38_12 {f : GF} {b : Nat} {dp : Int} (hb : 1 ≤ b) (ci : CV 39 b dp f kd) : ∀ n : Nat, ∀ {i : Nat} {h : AH} {S : List (Int × Int)} {R : List Int} (j : Nat), b ≤ d → j + n = 400 → j ≤ i → XG h0 dq kd N h i S R w → PG h0 dq kd N S R w K (gLp kd f 318 23 318 23 n i) → WP (d + 1) 38 (12, [(2, 27), (0, dp), (0, (j : Int))], [], h, 0, 0) K := by
  intro n
  induction n with
  | zero =>
    intro i h S R j hd hj ji x k
    refine v38_12 ⟨fun z => absurd z (by omega), fun _ => ⟨Or.inr rfl, k h ?_⟩⟩
    show XG h0 dq kd N h i (S ++ []) (R ++ []) w
    rw [List.append_nil, List.append_nil]
    exact x
  | succ n ih =>
    intro i h S R j hd hj ji x k
    have k' : PG h0 dq kd N S R w K (if kd i = 318 then bnd (tk kd 318 0 i) fun i => bnd (f i) fun i => bnd (em (23, 0, 0) i) (gLp kd f 318 23 318 23 n) else if kd i = 318 then bnd (tk kd 318 0 i) fun i => bnd (f i) fun i => bnd (em (23, 0, 0) i) (gLp kd f 318 23 318 23 n) else .inr (i, [], [])) := k
    have nx : ∀ (i2 : Nat) h2 S2 R2, i < i2 → XG h0 dq kd N h2 i2 (S2 ++ [(23, 0)]) R2 w → PG h0 dq kd N S2 R2 w K (bnd (em (23, 0, 0) i2) (gLp kd f 318 23 318 23 n)) → WP (d + 1) 38 (12, [(2, 27), (0, dp), (0, w32 ((j : Int) + 1))], [], h2, 0, 0) K := fun i2 h2 S2 R2 hi x2 k2 => by
      rw [w32_nat (by omega)]
      exact ih (j + 1) hd (by omega) (by omega) x2 (PG.es (o := (23, 0, 0)) (by decide) k2)
    refine v38_12 ⟨fun _ => ⟨x.t, c30b (by decide) (by omega) x (fun za h3 x3 => okx ⟨fun y => absurd y (by decide), fun _ => ⟨x3.t, ?_⟩⟩) (fun za => okx ⟨fun _ => ⟨Or.inr rfl, ?_⟩, fun y => absurd rfl y⟩)⟩, fun z => absurd (show (j : Int) < 400 by omega) z⟩
    · rw [if_pos za] at k'
      exact ci.go (by omega) x3 (PG.ch (PG.ty za k') fun _ _ _ h5 x5 k5 => ⟨x5.t, c32c (by omega) x5 fun h6 x6 => nx _ h6 _ _ (x.gt x5) x6 k5⟩)
    · rw [if_neg za, if_neg za] at k'
      refine k' h ?_
      show XG h0 dq kd N h i (S ++ []) (R ++ []) w
      rw [List.append_nil, List.append_nil]
      exact x
theorem c38 {f : GF} {b : Nat} {dp : Int} (hb : 1 ≤ b) (ci : CV 39 b dp f kd) : CV 38 (b + 1) dp (gList kd f 318 23 318 23) kd := by
  intro D h0 h dq N i S R w K hD x k
  obtain ⟨d, rfl⟩ : ∃ d, D = d + 1 := ⟨D - 1, by omega⟩
  exact v38 ⟨x.t, ci.go (by omega) x (PG.ch k fun _ _ _ h2 x2 k2 => c38_12 hb ci 400 0 (by omega) rfl (Nat.zero_le _) x2 k2)⟩
theorem c37_12 {f : GF} {b : Nat} {dp : Int} (hb : 1 ≤ b) (ci : CV 38 b dp f kd) : ∀ n : Nat, ∀ {i : Nat} {h : AH} {S : List (Int × Int)} {R : List Int} (j : Nat), b ≤ d → j + n = 400 → j ≤ i → XG h0 dq kd N h i S R w → PG h0 dq kd N S R w K (gLp kd f 319 24 319 24 n i) → WP (d + 1) 37 (12, [(2, 27), (0, dp), (0, (j : Int))], [], h, 0, 0) K := by
  intro n
  induction n with
  | zero =>
    intro i h S R j hd hj ji x k
    refine v37_12 ⟨fun z => absurd z (by omega), fun _ => ⟨Or.inr rfl, k h ?_⟩⟩
    show XG h0 dq kd N h i (S ++ []) (R ++ []) w
    rw [List.append_nil, List.append_nil]
    exact x
  | succ n ih =>
    intro i h S R j hd hj ji x k
    have k' : PG h0 dq kd N S R w K (if kd i = 319 then bnd (tk kd 319 0 i) fun i => bnd (f i) fun i => bnd (em (24, 0, 0) i) (gLp kd f 319 24 319 24 n) else if kd i = 319 then bnd (tk kd 319 0 i) fun i => bnd (f i) fun i => bnd (em (24, 0, 0) i) (gLp kd f 319 24 319 24 n) else .inr (i, [], [])) := k
    have nx : ∀ (i2 : Nat) h2 S2 R2, i < i2 → XG h0 dq kd N h2 i2 (S2 ++ [(24, 0)]) R2 w → PG h0 dq kd N S2 R2 w K (bnd (em (24, 0, 0) i2) (gLp kd f 319 24 319 24 n)) → WP (d + 1) 37 (12, [(2, 27), (0, dp), (0, w32 ((j : Int) + 1))], [], h2, 0, 0) K := fun i2 h2 S2 R2 hi x2 k2 => by
      rw [w32_nat (by omega)]
      exact ih (j + 1) hd (by omega) (by omega) x2 (PG.es (o := (24, 0, 0)) (by decide) k2)
    refine v37_12 ⟨fun _ => ⟨x.t, c30b (by decide) (by omega) x (fun za h3 x3 => okx ⟨fun y => absurd y (by decide), fun _ => ⟨x3.t, ?_⟩⟩) (fun za => okx ⟨fun _ => ⟨Or.inr rfl, ?_⟩, fun y => absurd rfl y⟩)⟩, fun z => absurd (show (j : Int) < 400 by omega) z⟩
    · rw [if_pos za] at k'
      exact ci.go (by omega) x3 (PG.ch (PG.ty za k') fun _ _ _ h5 x5 k5 => ⟨x5.t, c32c (by omega) x5 fun h6 x6 => nx _ h6 _ _ (x.gt x5) x6 k5⟩)
    · rw [if_neg za, if_neg za] at k'
      refine k' h ?_
      show XG h0 dq kd N h i (S ++ []) (R ++ []) w
      rw [List.append_nil, List.append_nil]
      exact x
theorem c37 {f : GF} {b : Nat} {dp : Int} (hb : 1 ≤ b) (ci : CV 38 b dp f kd) : CV 37 (b + 1) dp (gList kd f 319 24 319 24) kd := by
  intro D h0 h dq N i S R w K hD x k
  obtain ⟨d, rfl⟩ : ∃ d, D = d + 1 := ⟨D - 1, by omega⟩
  exact v37 ⟨x.t, ci.go (by omega) x (PG.ch k fun _ _ _ h2 x2 k2 => c37_12 hb ci 400 0 (by omega) rfl (Nat.zero_le _) x2 k2)⟩
/-- what stands one depth deeper -/
def LT (kd : Nat → Int) (b : Nat) (dp : Int) : Option (GF × GF) → Prop
  | none => dp = 8
  | some v => (0 ≤ dp ∧ dp < 8) ∧ CV 39 b (dp + 1) v.1 kd ∧ CV 37 b (dp + 1) v.2 kd
theorem LT.bd {b : Nat} {dp : Int} : ∀ {lv : Option (GF × GF)}, LT kd b dp lv → 0 ≤ dp ∧ dp ≤ 8
  | none, x => by
    have x' : dp = 8 := x
    omega
  | some v, x => by
    have x' := x.1
    omega
theorem c39 {b : Nat} {dp : Int} {su : GF} (hb : 2 ≤ b) {lt : Option (GF × GF)} (hl : LT kd b dp lt) (hs : CV 42 b dp su kd) : CV 39 (b + 1) dp (gSng kd su lt) kd := by
  intro D h0 h dq N i S R w K hD x k
  obtain ⟨d, rfl⟩ : ∃ d, D = d + 1 := ⟨D - 1, by omega⟩
  have bd := hl.bd
  unfold gSng at k
  refine v39 ?_
  rw [w32_id (x := dp + 1) (by omega) (by omega)]
  refine ⟨x.t, c29 x (okx ⟨fun z => ?_, fun z1 => ⟨fun z => ?_, fun z2 => ⟨fun z => ?_, fun z3 => ⟨fun z => ?_, fun z4 => ?_⟩⟩⟩⟩)⟩
  · rw [if_pos z] at k
    cases lt with
    | none =>
      have e : dp = 8 := hl
      exact ⟨fun z => absurd z (by omega), fun _ => ⟨Or.inl rfl, k x.iN h x.f x.po⟩⟩
    | some v =>
      obtain ⟨hl1, hl2, hl3⟩ := hl
      exact ⟨fun _ => ⟨x.t, c30 (by decide) (by omega) x (PG.ch k fun _ _ _ _ x k => ⟨x.t, hl3.go (by omega) x (PG.ch k fun _ _ _ _ x k => ⟨x.t, c30 (by decide) (by omega) x (PG.la (by omega) k)⟩)⟩)⟩, fun z => absurd hl1.2 z⟩
  · rw [if_neg z1, if_pos z] at k
    refine ⟨x.t, c30 (by decide) (by omega) x (PG.ch k fun i2 s t h2 x k => ?_)⟩
    have k' : PG h0 dq kd N (S ++ css s) (R ++ t) w K (if kd i2 = 256 then (if kd (i2 + 1) = 256 then .inr (i2 + 2, [(11, (i2 : Int), ((i2 + 1 : Nat) : Int))], [13, 12]) else .inl (i2 + 1)) else .inl i2) := k
    refine ⟨x.t, c40b (by omega) x (fun za h3 x3 => okx ⟨fun y => absurd y (by decide), fun _ => ?_⟩) (fun za => okx ⟨fun _ => ⟨Or.inl rfl, ?_⟩, fun y => absurd rfl y⟩)⟩
    · rw [if_pos za] at k'
      refine ⟨x3.t, c40b (by omega) x3 (fun zb h4 x4 => okx ⟨fun y => absurd y (by decide), fun _ => ?_⟩) (fun zb => okx ⟨fun _ => ⟨Or.inl rfl, ?_⟩, fun y => absurd rfl y⟩)⟩
      · rw [if_pos zb] at k'
        refine ⟨x4.t, c32c (by omega) x4 (fun h5 x5 => ⟨Or.inr rfl, k' h5 ?_⟩)⟩
        show XG h0 dq kd N h5 (i2 + 2) ((S ++ css s) ++ css [(11, (i2 : Int), ((i2 + 1 : Nat) : Int))]) ((R ++ t) ++ [13, 12]) w
        rw [List.append_assoc (S ++ css s), List.append_assoc (S ++ css s), List.append_assoc (R ++ t)] at x5
        exact x5
      · rw [if_neg zb] at k'
        exact k' x3.iN h3 x3.f x3.po
    · rw [if_neg za] at k'
      exact k' x.iN h2 x.f x.po
  · rw [if_neg z1, if_neg z2, if_pos z] at k
    exact ⟨x.t, c30 (by decide) (by omega) x (PG.ch k fun _ _ _ _ x k => ⟨x.t, c40 (by decide) (by omega) x (PG.la (by omega) k)⟩)⟩
  · rw [if_neg z1, if_neg z2, if_neg z3, if_pos z] at k
    cases lt with
    | none =>
      have e : dp = 8 := hl
      exact ⟨fun z => absurd z (by omega), fun _ => ⟨Or.inl rfl, k x.iN h x.f x.po⟩⟩
    | some v =>
      obtain ⟨hl1, hl2, hl3⟩ := hl
      exact ⟨fun _ => ⟨x.t, c30 (by decide) (by omega) x (PG.ch k fun _ _ _ _ x k => ⟨x.t, hl2.go (by omega) x (PG.ch k fun _ _ _ _ x k => ⟨x.t, c32e (by decide) (by omega) x k⟩)⟩)⟩, fun z => absurd hl1.2 z⟩
  · rw [if_neg z1, if_neg z2, if_neg z3, if_neg z4] at k
    refine ⟨x.t, hs.go (by omega) x (PG.ch k fun i2 s t h2 x k => ?_)⟩
    have k' : PG h0 dq kd N (S ++ css s) (R ++ t) w K (if gCc (kd i2) = 0 then .inl i2 else bnd (tk kd (kd i2) 0 i2) fun j => bnd (su j) (em (gCc (kd i2), 0, 0))) := k
    refine ⟨x.t, c41 (by omega) x (okx ⟨fun z => ?_, fun z => ?_⟩)⟩
    · rw [if_pos z] at k'
      exact ⟨Or.inl rfl, k' x.iN h2 x.f x.po⟩
    · rw [if_neg z] at k'
      exact ⟨x.t, c29 x (okx ⟨x.t, c30 (gCc_rg z) (by omega) x (PG.ch k' fun _ _ _ _ x k => ⟨x.t, hs.go (by omega) x (PG.ch k fun _ _ _ _ x k => ⟨x.t, c32e gCc_11 (by omega) x k⟩)⟩)⟩)⟩
theorem c_lt : ∀ n : Nat, n ≤ 8 → LT kd (5 * n + 5) (8 - (n : Int)) (gLt kd n)
  | 0, _ => by
    show (8 : Int) - ((0 : Nat) : Int) = 8
    omega
  | n + 1, hn => by
    have ih := c_lt n (by omega)
    have c1 := c39 (su := gSum kd (gVal kd (gLv kd n))) (by omega) ih (c_su (by omega))
    have c2 := c37 (by omega) (c38 (by omega) c1)
    have e : 8 - ((n + 1 : Nat) : Int) + 1 = 8 - (n : Int) := by omega
    refine ⟨by omega, ?_, ?_⟩
    · rw [e]
      intro D h0 h dq N i S R w K hD
      exact c1 D h0 h dq N i S R w K (by omega)
    · rw [e]
      intro D h0 h dq N i S R w K hD
      exact c2 D h0 h dq N i S R w K (by omega)
/-- a test -/
theorem c_ts (hD : 48 ≤ D) (x : XG h0 dq kd N h i S R w) (k : PG h0 dq kd N S R w K (gT kd 8 i)) : am_call D 37 [(2, 27), (0, 0)] h K :=
  (c37 (by omega) (c38 (by omega) (c39 (by omega) (c_lt 8 (Nat.le_refl _)) (c_su (Nat.le_refl _))))).go (f := gTst kd (gSng kd (gS kd 8) (gLt kd 8))) (dp := 8 - ((8 : Nat) : Int)) (by omega) x k
end
