/-! ===== the class's grammar: lines ===== -/
theorem bnd_assoc {r : PR} {f g : GF} : bnd (bnd r f) g = bnd r (fun j => bnd (f j) g) := by
  cases r with
  | inl j => rfl
  | inr r =>
    obtain ⟨j, s, t⟩ := r
    cases e : f j with
    | inl k => simp only [bnd, e]
    | inr q =>
      obtain ⟨k, s2, t2⟩ := q
      cases e2 : g k with
      | inl m => simp only [bnd, e, e2]
      | inr p =>
        obtain ⟨m, s3, t3⟩ := p
        simp only [bnd, e, e2, List.append_assoc]
theorem gBan_em {kd : Nat → Int} {i : Nat} {o : Op} : bnd (gBan kd i) (em o) = bnd (tk kd 309 4 i) fun i => bnd (tk kd 256 11 i) fun i => bnd (tk kd 310 0 i) fun i => bnd (gT kd 8 i) (em o) := by
  unfold gBan
  simp only [bnd_assoc]
theorem tk_pos {kd : Nat → Int} {c ro : Int} {i j : Nat} {f : GF} {s : List Op} {t : List Int} (e : bnd (tk kd c ro i) f = .inr (j, s, t)) : ∃ t2, t = [ro] ++ t2 := by
  unfold tk at e
  by_cases z : kd i = c
  · rw [if_pos z] at e
    have e' : (match f (i + 1) with | .inl k => (.inl k : PR) | .inr (k, s2, t2) => .inr (k, [] ++ s2, [ro] ++ t2)) = .inr (j, s, t) := e
    revert e'
    cases f (i + 1) with
    | inl m => exact fun y => by cases y
    | inr q =>
      obtain ⟨m, s2, t2⟩ := q
      intro y
      cases y
      exact ⟨t2, rfl⟩
  · rw [if_neg z] at e
    cases e
def FQ (h0 h : AH) (dq : Int) : Prop := Fr 0 53 h0 h ∧ ∀ b j, ¬ (b = 27 ∧ j = 2) → ¬ b = 28 → ¬ b = 29 → ¬ (b = dq ∧ j = 5) → ¬ b = dq + 8 → ¬ b = dq + 9 → b < am_n h0 → am_m h b j = am_m h0 b j
theorem FQ.rf {h : AH} {dq : Int} : FQ h h dq := ⟨Fr.rf, fun _ _ _ _ _ _ _ _ _ => rfl⟩
theorem FQ.tr {h0 h h2 : AH} {dq : Int} (x : FQ h0 h dq) (y : FG h h2 dq) : FQ h0 h2 dq := ⟨x.1.tr y.1, fun b j z1 z2 z3 z4 z5 z6 z7 => (y.2 b j z1 z2 z4 z5 z6 (Int.lt_of_lt_of_le z7 x.1.1)).trans (x.2 b j z1 z2 z3 z4 z5 z6 z7)⟩
def bss : List (Nat × List Op) → List (Int × Int)
  | [] => []
  | b :: r => css b.2 ++ ((0, 0) :: bss r)
theorem bss_snoc {b : Nat} {o : List Op} : ∀ {L : List (Nat × List Op)}, bss (L ++ [(b, o)]) = bss L ++ css o ++ [(0, 0)]
  | [] => by
    show css o ++ ((0, 0) :: []) = [] ++ css o ++ [(0, 0)]
    rfl
  | a :: r => by
    show css a.2 ++ ((0, 0) :: bss (r ++ [(b, o)])) = (css a.2 ++ ((0, 0) :: bss r)) ++ css o ++ [(0, 0)]
    rw [bss_snoc]
    simp only [List.append_assoc, List.cons_append]
/-- where the steps of each ban begin is told at its token -/
def XB (h : AH) (i : Nat) : Int → List (Nat × List Op) → Prop
  | _, [] => True
  | p, b :: r => am_m h 29 (b.1 : Int) = p ∧ b.1 < i ∧ XB h i (p + ((css b.2).length : Int) + 1) r
theorem XB.cg {h h2 : AH} {i i2 : Nat} (hi : i ≤ i2) (e : ∀ b : Nat, b < i → am_m h2 29 (b : Int) = am_m h 29 (b : Int)) : ∀ {L : List (Nat × List Op)} {p : Int}, XB h i p L → XB h2 i2 p L
  | [], _, _ => trivial
  | b :: r, p, x => ⟨(e b.1 x.2.1).trans x.1, by have := x.2.1; omega, XB.cg hi e x.2.2⟩
theorem XB.snoc {h : AH} {i b : Nat} {o : List Op} (hb : b < i) : ∀ {L : List (Nat × List Op)} {p : Int}, XB h i p L → am_m h 29 (b : Int) = p + ((bss L).length : Int) → XB h i p (L ++ [(b, o)])
  | [], p, _, e => ⟨e.trans (by show p + ((0 : Nat) : Int) = p; omega), hb, trivial⟩
  | a :: r, p, x, e => by
    refine ⟨x.1, x.2.1, XB.snoc hb x.2.2 (e.trans ?_)⟩
    show p + ((css a.2 ++ ((0, 0) :: bss r)).length : Int) = _
    rw [List.length_append]
    show p + (((css a.2).length + ((bss r).length + 1) : Nat) : Int) = _
    omega
def XL (h1 h0 : AH) (dq : Int) (kd : Nat → Int) (N : Nat) (h : AH) (i : Nat) (B : List (Nat × List Op)) (R : List Int) : Prop := XG h0 dq kd N h i (bss B) R 0 ∧ FQ h1 h0 dq ∧ XB h0 i 0 B
def PL (h1 : AH) (dq : Int) (kd : Nat → Int) (N : Nat) (B : List (Nat × List Op)) (R : List Int) (K : AK) : LR → Prop
  | .inl j => j ≤ N → ∀ h2, FQ h1 h2 dq → am_m h2 27 2 = (j : Int) → K 0 0 h2
  | .inr (j, s, t) => ∀ h0 h2, XL h1 h0 dq kd N h2 j (B ++ s) (R ++ t) → K 0 1 h2
section
variable {d D n : Nat} {h1 h0 h : AH} {dq : Int} {kd : Nat → Int} {N i : Nat} {B : List (Nat × List Op)} {R : List Int} {K : AK}
theorem XL.t (x : XL h1 h0 dq kd N h i B R) : am_t h 27 = 2 := x.1.t
theorem XL.er (x : XL h1 h0 dq kd N h i B R) (k : PL h1 dq kd N B R K (.inl i)) : K 0 0 h := k x.1.iN h (x.2.1.tr x.1.f) x.1.po
theorem XL.ok (x : XL h1 h0 dq kd N h i B R) (k : PL h1 dq kd N B R K (.inr (i, [], []))) : K 0 1 h := by
  refine k h0 h ?_
  rw [List.append_nil, List.append_nil]
  exact x
theorem XL.take {h2 : AH} {ro : Int} (x : XL h1 h0 dq kd N h i B R) (x2 : XG h0 dq kd N h2 (i + 1) (bss B) (R ++ [ro]) 1) : XL h1 h0 dq kd N h2 (i + 1) B (R ++ [ro]) := ⟨x2.le (Nat.zero_le _), x.2.1, x.2.2.cg (Nat.le_succ _) (fun _ _ => rfl)⟩
theorem c31Lb {c ro : Int} (hc : c ≠ 260 ∧ c ≠ 261) (x : XL h1 h0 dq kd N h i B R) (kY : kd i = c → ∀ h2, XL h1 h0 dq kd N h2 (i + 1) B (R ++ [ro]) → K 0 1 h2) (kN : kd i ≠ c → K 0 0 h) : am_call d 31 [(2, 27), (0, c), (0, ro)] h K :=
  c31b hc x.1 (fun z h2 x2 => kY z h2 (x.take x2)) kN
theorem c30Lb {c : Int} (hc : c ≠ 260 ∧ c ≠ 261) (hD : 1 ≤ D) (x : XL h1 h0 dq kd N h i B R) (kY : kd i = c → ∀ h2, XL h1 h0 dq kd N h2 (i + 1) B (R ++ [0]) → K 0 1 h2) (kN : kd i ≠ c → K 0 0 h) : am_call D 30 [(2, 27), (0, c)] h K :=
  c30b hc hD x.1 (fun z h2 x2 => kY z h2 (x.take x2)) kN
theorem PL.ty {c ro : Int} {f : LF} (z : kd i = c) (k : PL h1 dq kd N B R K (bndL (tkL kd c ro i) f)) : PL h1 dq kd N B (R ++ [ro]) K (f (i + 1)) := by
  unfold tkL at k
  rw [if_pos z] at k
  have k' : PL h1 dq kd N B R K (match f (i + 1) with | .inl k => .inl k | .inr (k, s2, t2) => .inr (k, [] ++ s2, [ro] ++ t2)) := k
  revert k'
  cases f (i + 1) with
  | inl m => exact fun k' => k'
  | inr q =>
    obtain ⟨m, s2, t2⟩ := q
    intro k' h3 h4 x3
    refine k' h3 h4 ?_
    rw [List.nil_append, ← List.append_assoc]
    exact x3
theorem PL.tn {c ro : Int} {f : LF} (z : kd i ≠ c) (k : PL h1 dq kd N B R K (bndL (tkL kd c ro i) f)) : PL h1 dq kd N B R K (.inl i) := by
  unfold tkL at k
  rw [if_neg z] at k
  exact k
theorem PL.fy {c ro : Int} (z : kd i = c) (k : PL h1 dq kd N B R K (tkL kd c ro i)) : PL h1 dq kd N B (R ++ [ro]) K (.inr (i + 1, [], [])) := by
  unfold tkL at k
  rw [if_pos z] at k
  intro h3 h4 x3
  refine k h3 h4 ?_
  rw [List.append_nil (R ++ [ro])] at x3
  exact x3
theorem PL.fn {c ro : Int} (z : kd i ≠ c) (k : PL h1 dq kd N B R K (tkL kd c ro i)) : PL h1 dq kd N B R K (.inl i) := by
  unfold tkL at k
  rw [if_neg z] at k
  exact k
/-! a taking in a row of ands -/
theorem c31L {c ro : Int} {f : LF} {G : AH → Prop} (hc : c ≠ 260 ∧ c ≠ 261) (x : XL h1 h0 dq kd N h i B R) (k : PL h1 dq kd N B R K (bndL (tkL kd c ro i) f)) (hT : ∀ h2, XL h1 h0 dq kd N h2 (i + 1) B (R ++ [ro]) → PL h1 dq kd N B (R ++ [ro]) K (f (i + 1)) → G h2) : am_call d 31 [(2, 27), (0, c), (0, ro)] h (fun x v h => am_okx x ((v = 0 → ((0 : Int) = 0 ∨ (0 : Int) = 1) ∧ K 0 0 h) ∧ (¬ v = 0 → G h))) :=
  c31Lb hc x (fun z h2 x2 => okx ⟨fun y => absurd y (by decide), fun _ => hT h2 x2 (k.ty z)⟩) (fun z => okx ⟨fun _ => ⟨Or.inl rfl, x.er (k.tn z)⟩, fun y => absurd rfl y⟩)
theorem c30L {c : Int} {f : LF} {G : AH → Prop} (hc : c ≠ 260 ∧ c ≠ 261) (hD : 1 ≤ D) (x : XL h1 h0 dq kd N h i B R) (k : PL h1 dq kd N B R K (bndL (tkL kd c 0 i) f)) (hT : ∀ h2, XL h1 h0 dq kd N h2 (i + 1) B (R ++ [0]) → PL h1 dq kd N B (R ++ [0]) K (f (i + 1)) → G h2) : am_call D 30 [(2, 27), (0, c)] h (fun x v h => am_okx x ((v = 0 → ((0 : Int) = 0 ∨ (0 : Int) = 1) ∧ K 0 0 h) ∧ (¬ v = 0 → G h))) :=
  c30Lb hc hD x (fun z h2 x2 => okx ⟨fun y => absurd y (by decide), fun _ => hT h2 x2 (k.ty z)⟩) (fun z => okx ⟨fun _ => ⟨Or.inl rfl, x.er (k.tn z)⟩, fun y => absurd rfl y⟩)
theorem c31Le {c ro : Int} (hc : c ≠ 260 ∧ c ≠ 261) (x : XL h1 h0 dq kd N h i B R) (k : PL h1 dq kd N B R K (tkL kd c ro i)) : am_call d 31 [(2, 27), (0, c), (0, ro)] h (fun x v h => am_okx x ((v = 0 → ((0 : Int) = 0 ∨ (0 : Int) = 1) ∧ K 0 0 h) ∧ (¬ v = 0 → ((1 : Int) = 0 ∨ (1 : Int) = 1) ∧ K 0 1 h))) :=
  c31Lb hc x (fun z h2 x2 => okx ⟨fun y => absurd y (by decide), fun _ => ⟨Or.inr rfl, x2.ok (k.fy z)⟩⟩) (fun z => okx ⟨fun _ => ⟨Or.inl rfl, x.er (k.fn z)⟩, fun y => absurd rfl y⟩)
/-! those that are liked -/
theorem c35_16 : ∀ n : Nat, ∀ {i : Nat} {h : AH} {R : List Int} (j : Nat), j + n = 400 → j ≤ i → XL h1 h0 dq kd N h i B R → PL h1 dq kd N B R K (gLk kd n i) → WP (d + 1) 35 (16, [(2, 27), (0, (j : Int))], [], h, 0, 0) K := by
  intro n
  induction n with
  | zero =>
    intro i h R j hj ji x k
    exact v35_16 ⟨fun z => absurd z (by omega), fun _ => ⟨Or.inr rfl, x.ok k⟩⟩
  | succ n ih =>
    intro i h R j hj ji x k
    have k' : PL h1 dq kd N B R K (if kd i = 256 then bndL (tkL kd 256 10 i) (gLk kd n) else .inr (i, [], [])) := k
    refine v35_16 ⟨fun _ => ⟨x.t, c31Lb (by decide) x (fun z h2 x2 => okx ⟨fun y => absurd y (by decide), fun _ => ?_⟩) (fun z => okx ⟨fun _ => ⟨Or.inr rfl, ?_⟩, fun y => absurd rfl y⟩)⟩, fun z => absurd (show (j : Int) < 400 by omega) z⟩
    · rw [if_pos z] at k'
      rw [w32_nat (by omega)]
      exact ih (j + 1) (by omega) (by omega) x2 (k'.ty z)
    · rw [if_neg z] at k'
      exact x.ok k'
theorem c35 (hD : 1 ≤ D) (x : XL h1 h0 dq kd N h i B R) (k : PL h1 dq kd N B R K (bndL (tkL kd 256 10 i) (gLk kd 400))) : am_call D 35 [(2, 27)] h K := by
  obtain ⟨d, rfl⟩ : ∃ d, D = d + 1 := ⟨D - 1, by omega⟩
  exact v35 ⟨x.t, c31L (by decide) x k fun h2 x2 k2 => c35_16 400 0 rfl (Nat.zero_le _) x2 k2⟩
/-! a ban -/
theorem GS.w29 {v : Int} {j : Int} (g : GS h0 dq kd N) : GS (am_w h0 29 j v) dq kd N := by
  have hq := g.qd
  have e : ∀ b i, b ≠ 29 → am_m (am_w h0 29 j v) b i = am_m h0 b i := fun b i z => by rw [am_m_w, if_neg (by omega)]
  exact ⟨g.t, (e _ _ (by decide)).trans g.f0, (e _ _ (by decide)).trans g.f1, (e _ _ (by decide)).trans g.f3, (e _ _ (by decide)).trans g.f4, g.t0, g.l0, g.t1, g.l1, g.tt, (e _ _ (by decide)).trans g.g0, g.tk, g.lk, fun i z => (e _ _ (by decide)).trans (g.kd i z), g.N4, g.en, g.ne, g.p.w (Or.inl (by omega)), hq, g.n⟩
theorem XG.w29 {v : Int} {j : Int} {S : List (Int × Int)} {w : Nat} (x : XG h0 dq kd N h i S R w) : XG (am_w h0 29 j v) dq kd N (am_w h 29 j v) i S R w := by
  have hq := x.g.qd
  have e : ∀ b i, b ≠ 29 → am_m (am_w h 29 j v) b i = am_m h b i := fun b i z => by rw [am_m_w, if_neg (by omega)]
  refine ⟨x.g.w29, ⟨⟨x.f.1.1, x.f.1.2.1, x.f.1.2.2.1, x.f.1.2.2.2.1, fun b z1 z2 i => by rw [am_m_w, if_neg (by omega), am_m_w, if_neg (by omega)]; exact x.f.1.2.2.2.2 b z1 z2 i⟩, fun b i z1 z2 z4 z5 z6 z7 => ?_⟩, (e _ _ (by decide)).trans x.po, (e _ _ (by omega)).trans x.cn, RW.cg (fun i _ _ => ?_) x.st, RW.cg (fun i _ _ => e _ _ (by decide)) x.ro, x.rl, x.bd, x.iN⟩
  · rw [am_m_w, am_m_w]
    by_cases z : b = 29 ∧ i = j
    · rw [if_pos z, if_pos z]
    · rw [if_neg z, if_neg z]
      exact x.f.2 b i z1 z2 z4 z5 z6 z7
  · show (_, _) = (_, _)
    rw [e _ _ (by omega), e _ _ (by omega)]
theorem c36 (hD : 49 ≤ D) (x : XL h1 h0 dq kd N h i B R) (k : PL h1 dq kd N B R K (l1 i (gBan kd i))) : am_call D 36 [(2, 27)] h K := by
  obtain ⟨d, rfl⟩ : ∃ d, D = d + 1 := ⟨D - 1, by omega⟩
  have iN := x.1.iN
  have N4 := x.1.g.N4
  have bd := x.1.bd
  have cn := x.1.cn
  have xw : XG (am_w h0 29 (i : Int) ((bss B).length : Int)) dq kd N (am_w h 29 (i : Int) ((bss B).length : Int)) i (bss B) R 0 := x.1.w29
  have fq : FQ h1 (am_w h0 29 (i : Int) ((bss B).length : Int)) dq := by
    refine ⟨x.2.1.1.w (by decide) (by decide), fun b j z1 z2 z3 z4 z5 z6 z7 => ?_⟩
    rw [am_m_w, if_neg (by omega)]
    exact x.2.1.2 b j z1 z2 z3 z4 z5 z6 z7
  have xb : XB (am_w h0 29 (i : Int) ((bss B).length : Int)) i 0 B := x.2.2.cg (Nat.le_refl _) (fun b hb => by rw [am_m_w, if_neg (by omega)])
  have k2 : PG (am_w h0 29 (i : Int) ((bss B).length : Int)) dq kd N (bss B) R 0 K (bnd (gBan kd i) (em (0, 0, 0))) := by
    have pos : ∀ j s t, gBan kd i = .inr (j, s, t) → ∃ t2, t = [4] ++ t2 := fun j s t e => tk_pos (show bnd (tk kd 309 4 i) _ = _ from e)
    revert k pos
    cases gBan kd i with
    | inl j => exact fun k _ z h2 f e => k z h2 (fq.tr f) e
    | inr q =>
      obtain ⟨j, s, t⟩ := q
      intro k pos h2 x2
      obtain ⟨t2, e⟩ := pos j s t rfl
      have rl := x2.rl
      have hj : i < j := by
        rw [e] at rl
        simp only [List.length_append, List.length_cons, List.length_nil] at rl
        have := x.1.rl
        omega
      refine k _ h2 ⟨?_, fq, (xb.cg (Nat.le_of_lt hj) (fun _ _ => rfl)).snoc hj ?_⟩
      · rw [bss_snoc, List.append_assoc]
        rw [css_app, List.append_nil t] at x2
        exact x2
      · rw [am_m_w, if_pos ⟨rfl, rfl⟩]
        omega
  rw [gBan_em] at k2
  refine v36 ?_
  rw [x.1.po, x.1.f1, x.1.f4, cn, x.1.t1, x.1.l1]
  refine ⟨x.t, fun z => absurd z (by omega), fun _ => ⟨x.t, x.t, ⟨by decide, by decide⟩, fun _ => ⟨x.t, x.t, x.t, x.1.p.1, ⟨rfl, by omega, by omega⟩, xw.t, ?_⟩, fun z => absurd (show (i : Int) < 401 by omega) z⟩⟩
  exact c31 (by decide) xw (PG.ch k2 fun _ _ _ _ x k => ⟨x.t, c31 (by decide) x (PG.ch k fun _ _ _ _ x k => ⟨x.t, c30 (by decide) (by omega) x (PG.ch k fun _ _ _ _ x k => ⟨x.t, c_ts (by omega) x (PG.ch k fun _ _ _ _ x k => ⟨x.t, c32e (by decide) (by omega) (x.le (by omega)) k⟩)⟩)⟩)⟩)
/-! a line -/
theorem PL.bv {r : LR} (k : PL h1 dq kd N B R K r) : PL h1 dq kd N B R (fun x v h => am_okx x ((v = 0 ∨ v = 1) ∧ K 0 v h)) r := by
  cases r with
  | inl j => exact fun z h2 f e => okx ⟨Or.inl rfl, k z h2 f e⟩
  | inr r => exact fun h0 h2 x => okx ⟨Or.inr rfl, k h0 h2 x⟩
theorem PL.la {r : LR} (k : PL h1 dq kd N B R K r) : PL h1 dq kd N B R (fun x v h => am_okx x ((v = 0 → ((0 : Int) = 0 ∨ (0 : Int) = 1) ∧ K 0 0 h) ∧ (¬ v = 0 → ((1 : Int) = 0 ∨ (1 : Int) = 1) ∧ K 0 1 h))) r := by
  cases r with
  | inl j => exact fun z h2 f e => okx ⟨fun _ => ⟨Or.inl rfl, k z h2 f e⟩, fun z => absurd rfl z⟩
  | inr r => exact fun h0 h2 x => okx ⟨fun z => absurd z (by decide), fun _ => ⟨Or.inr rfl, k h0 h2 x⟩⟩
theorem PL.ch {r : LR} {f : LF} {G : AH → Prop} (k : PL h1 dq kd N B R K (bndL r f)) (hT : ∀ j s t h0 h2, XL h1 h0 dq kd N h2 j (B ++ s) (R ++ t) → PL h1 dq kd N (B ++ s) (R ++ t) K (f j) → G h2) : PL h1 dq kd N B R (fun x v h => am_okx x ((v = 0 → ((0 : Int) = 0 ∨ (0 : Int) = 1) ∧ K 0 0 h) ∧ (¬ v = 0 → G h))) r := by
  cases r with
  | inl j => exact fun z h2 f e => okx ⟨fun _ => ⟨Or.inl rfl, k z h2 f e⟩, fun z => absurd rfl z⟩
  | inr r =>
    obtain ⟨j, s, t⟩ := r
    refine fun h0 h2 x => okx ⟨fun z => absurd z (by decide), fun _ => hT j s t h0 h2 x ?_⟩
    have k' : PL h1 dq kd N B R K (match f j with | .inl k => .inl k | .inr (k, s2, t2) => .inr (k, s ++ s2, t ++ t2)) := k
    revert k'
    cases f j with
    | inl m => exact fun k' => k'
    | inr q =>
      obtain ⟨m, s2, t2⟩ := q
      intro k' h0 h3 x3
      refine k' h0 h3 ?_
      rw [← List.append_assoc, ← List.append_assoc]
      exact x3
theorem c34 (hD : 50 ≤ D) (x : XL h1 h0 dq kd N h i B R) (k : PL h1 dq kd N B R K (gLine kd i)) : am_call D 34 [(2, 27)] h K := by
  obtain ⟨d, rfl⟩ : ∃ d, D = d + 1 := ⟨D - 1, by omega⟩
  unfold gLine at k
  refine v34 ⟨x.t, c29 x.1 (okx ⟨fun z => ?_, fun z1 => ⟨fun z => ?_, fun z2 => ⟨fun z => ?_, fun z3 => ⟨fun z => ?_, fun z4 => ⟨fun z => ?_, fun z5 => ⟨fun z => ?_, fun z6 => ⟨fun z => ?_, fun z7 => ⟨fun z => ?_, fun z8 => ⟨fun z => ?_, fun z9 => ⟨fun z => ?_, fun z10 => ?_⟩⟩⟩⟩⟩⟩⟩⟩⟩⟩)⟩
  · rw [if_pos z] at k
    exact ⟨x.t, c30L (by decide) (by omega) x k fun _ x k => ⟨x.t, c31L (by decide) x k fun _ x k => ⟨x.t, c30L (by decide) (by omega) x k fun _ x k => ⟨x.t, c31Le (by decide) x k⟩⟩⟩⟩
  · rw [if_neg (by omega), if_neg (by omega), if_neg (by omega), if_neg (by omega), if_neg (by omega)] at k
    exact ⟨Or.inl rfl, x.er k⟩
  · rw [if_neg z1, if_pos z] at k
    exact ⟨x.t, c30L (by decide) (by omega) x k fun _ x k => ⟨x.t, c31L (by decide) x k fun _ x k => ⟨x.t, c30L (by decide) (by omega) x k fun _ x k => ⟨x.t, c31L (by decide) x k fun _ x k => ⟨x.t, c30L (by decide) (by omega) x k fun _ x k => ⟨x.t, c31L (by decide) x k fun _ x k => ⟨x.t, c30L (by decide) (by omega) x k fun _ x k => ⟨x.t, c31Le (by decide) x k⟩⟩⟩⟩⟩⟩⟩⟩
  · rw [if_neg (by omega), if_neg (by omega), if_neg (by omega), if_neg (by omega), if_neg (by omega)] at k
    exact ⟨Or.inl rfl, x.er k⟩
  · rw [if_neg (by omega), if_neg (by omega), if_neg (by omega), if_neg (by omega), if_neg (by omega)] at k
    exact ⟨Or.inl rfl, x.er k⟩
  · rw [if_neg (by omega), if_neg (by omega), if_neg (by omega), if_neg (by omega), if_neg (by omega)] at k
    exact ⟨Or.inl rfl, x.er k⟩
  · rw [if_neg z1, if_neg z3, if_pos z] at k
    refine ⟨x.t, c30L (by decide) (by omega) x k fun _ x k => ⟨x.t, c31L (by decide) x k fun h2 x k => ⟨x.t, ?_⟩⟩⟩
    have k' : PL h1 dq kd N B (R ++ [0] ++ [3]) K (if kd (i + 1 + 1) = 307 then bndL (tkL kd 307 0 (i + 1 + 1)) fun i => bndL (tkL kd 256 10 i) (gLk kd 400) else .inr (i + 1 + 1, [], [])) := k
    refine c30Lb (by decide) (by omega) x (fun y h3 x3 => okx ⟨fun y => absurd y (by decide), fun _ => ⟨x3.t, ?_⟩⟩) (fun y => okx ⟨fun _ => ⟨Or.inr rfl, ?_⟩, fun y => absurd rfl y⟩)
    · rw [if_pos y] at k'
      exact c35 (by omega) x3 (PL.la (k'.ty y))
    · rw [if_neg y] at k'
      exact x.ok k'
  · rw [if_neg (by omega), if_neg (by omega), if_neg (by omega), if_neg (by omega), if_neg (by omega)] at k
    exact ⟨Or.inl rfl, x.er k⟩
  · rw [if_neg z1, if_neg z3, if_neg z7, if_pos z] at k
    exact ⟨x.t, c30L (by decide) (by omega) x k fun _ x k => ⟨x.t, c31Le (by decide) x k⟩⟩
  · rw [if_neg z1, if_neg z3, if_neg z7, if_neg z9, if_pos z] at k
    exact ⟨x.t, c36 (by omega) x k.bv⟩
  · rw [if_neg z1, if_neg z3, if_neg z7, if_neg z9, if_neg z10] at k
    exact ⟨Or.inl rfl, x.er k⟩
/-! the whole list -/
theorem c28_17 {y1 : AV} (hd : 50 ≤ d) : ∀ n : Nat, ∀ {i : Nat} {h0 h : AH} {B : List (Nat × List Op)} {R : List Int} (j : Nat), j + n = 400 → j ≤ i → XL h1 h0 dq kd N h i B R → PL h1 dq kd N B R K (gAll kd n i) → WP (d + 1) 28 (17, [(2, 27), y1, (0, (j : Int))], [], h, 0, 0) K := by
  intro n
  induction n with
  | zero =>
    intro i h0 h B R j hj ji x k
    have k' : PL h1 dq kd N B R K (if kd i = 260 then .inr (i, [], []) else .inl i) := k
    refine v28_17 ⟨fun z => absurd z (by omega), fun _ => ⟨x.t, c29 x.1 (okx ⟨fun z => ?_, fun z => ?_⟩)⟩⟩
    · rw [if_pos z] at k'
      exact ⟨Or.inr rfl, x.ok k'⟩
    · rw [if_neg z] at k'
      exact ⟨Or.inl rfl, x.er k'⟩
  | succ n ih =>
    intro i h0 h B R j hj ji x k
    have k' : PL h1 dq kd N B R K (if kd i = 260 then .inr (i, [], []) else bndL (gLine kd i) fun i => bndL (tkL kd 59 0 i) (gAll kd n)) := k
    refine v28_17 ⟨fun _ => ⟨x.t, c29 x.1 (okx ⟨fun z => ?_, fun z => ?_⟩)⟩, fun z => absurd (show (j : Int) < 400 by omega) z⟩
    · rw [if_pos z] at k'
      exact ⟨Or.inr rfl, x.ok k'⟩
    · rw [if_neg z] at k'
      refine ⟨x.t, c34 hd x (PL.ch k' fun i2 s t h3 h4 x4 k4 => ⟨x4.t, c30L (by decide) (by omega) x4 k4 fun h5 x5 k5 => ?_⟩)⟩
      have l1 := x4.1.rl
      have l2 := x.1.rl
      rw [List.length_append] at l1
      rw [w32_nat (by omega)]
      exact ih (j + 1) (by omega) (by omega) x5 k5
/-- is it a list -/
theorem c28 (hD : 51 ≤ D) (g : GS (am_w (am_w (am_w h 27 4 dq) dq 5 0) 27 2 0) dq kd N) (k : PL (am_w (am_w (am_w h 27 4 dq) dq 5 0) 27 2 0) dq kd N [] [] K (gAll kd 400 0)) : am_call D 28 [(2, 27), (2, dq)] h K := by
  obtain ⟨d, rfl⟩ : ∃ d, D = d + 1 := ⟨D - 1, by omega⟩
  have hq := g.qd
  have x : XL (am_w (am_w (am_w h 27 4 dq) dq 5 0) 27 2 0) (am_w (am_w (am_w h 27 4 dq) dq 5 0) 27 2 0) dq kd N (am_w (am_w (am_w h 27 4 dq) dq 5 0) 27 2 0) 0 [] [] := by
    refine ⟨⟨g, FG.rf, by rw [am_m_w, if_pos ⟨rfl, rfl⟩]; rfl, ?_, trivial, trivial, rfl, Nat.le_refl _, Nat.zero_le _⟩, FQ.rf, trivial⟩
    rw [am_m_w, if_neg (by omega), am_m_w, if_pos ⟨rfl, rfl⟩]
    rfl
  exact v28 ⟨g.t, g.p.t, g.t, c28_17 (by omega) 400 0 rfl (Nat.le_refl _) x k⟩
end
