/-! ===== the reference's grammar: lines ===== -/
def bos : List (Nat × List Op) → List Op
  | [] => []
  | b :: r => b.2 ++ bos r
theorem bos_snoc {b : Nat} {o : List Op} : ∀ {L : List (Nat × List Op)}, bos (L ++ [(b, o)]) = bos L ++ o
  | [] => List.append_nil o
  | a :: r => by
    show a.2 ++ bos (r ++ [(b, o)]) = (a.2 ++ bos r) ++ o
    rw [bos_snoc, List.append_assoc]
/-- where the code of each of the first twelve bans begins and ends -/
def XQ (h : AH) (q : Int) (va : Nat → Int) : Nat → Int → List (Nat × List Op) → Prop
  | _, _, [] => True
  | k, p, b :: r => (k < 12 → am_m h (q + 7) (k : Int) = p ∧ am_m h (q + 8) (k : Int) = p + ((mcs va b.2).length : Int)) ∧ XQ h q va (k + 1) (p + ((mcs va b.2).length : Int)) r
theorem XQ.cg {h h2 : AH} {q : Int} {va : Nat → Int} : ∀ {L : List (Nat × List Op)} {k : Nat} {p : Int}, (∀ j : Nat, j < 12 → j < k + L.length → am_m h2 (q + 7) (j : Int) = am_m h (q + 7) (j : Int) ∧ am_m h2 (q + 8) (j : Int) = am_m h (q + 8) (j : Int)) → XQ h q va k p L → XQ h2 q va k p L
  | [], _, _, _, _ => trivial
  | b :: r, k, p, e, x => by
    have e' : ∀ j : Nat, j < 12 → j < k + (r.length + 1) → am_m h2 (q + 7) (j : Int) = am_m h (q + 7) (j : Int) ∧ am_m h2 (q + 8) (j : Int) = am_m h (q + 8) (j : Int) := e
    refine ⟨fun hk => ?_, XQ.cg (fun j z1 z2 => e' j z1 (by omega)) x.2⟩
    have ek := e' k hk (by omega)
    exact ⟨ek.1.trans (x.1 hk).1, ek.2.trans (x.1 hk).2⟩
theorem XQ.snoc {h : AH} {q : Int} {va : Nat → Int} {i : Nat} {s : List Op} : ∀ {L : List (Nat × List Op)} {k : Nat} {p : Int}, XQ h q va k p L → (k + L.length < 12 → am_m h (q + 7) ((k + L.length : Nat) : Int) = p + ((mcs va (bos L)).length : Int) ∧ am_m h (q + 8) ((k + L.length : Nat) : Int) = p + ((mcs va (bos L)).length : Int) + ((mcs va s).length : Int)) → XQ h q va k p (L ++ [(i, s)])
  | [], k, p, _, e => by
    refine ⟨fun hk => ?_, trivial⟩
    have e' := e hk
    have e2 : am_m h (q + 7) (k : Int) = p + ((0 : Nat) : Int) ∧ am_m h (q + 8) (k : Int) = p + ((0 : Nat) : Int) + ((mcs va s).length : Int) := e'
    rw [show p + ((0 : Nat) : Int) = p by omega] at e2
    exact e2
  | a :: r, k, p, x, e => by
    refine ⟨x.1, XQ.snoc x.2 (fun hk => ?_)⟩
    have e' := e (show k + (r.length + 1) < 12 by omega)
    have e2 : am_m h (q + 7) ((k + (r.length + 1) : Nat) : Int) = p + ((mcs va (a.2 ++ bos r)).length : Int) ∧ am_m h (q + 8) ((k + (r.length + 1) : Nat) : Int) = p + ((mcs va (a.2 ++ bos r)).length : Int) + ((mcs va s).length : Int) := e'
    rw [mcs_app, List.length_append] at e2
    rw [show k + 1 + r.length = k + (r.length + 1) by omega, show p + ((mcs va a.2).length : Int) + ((mcs va (bos r)).length : Int) = p + (((mcs va a.2).length + (mcs va (bos r)).length : Nat) : Int) by omega]
    exact e2
section
variable {d D n : Nat} {h0 h : AH} {q dp : Int} {kd va : Nat → Int} {N i : Nat} {C O R : List Int} {w : Nat} {K : AK}
theorem XM.rb {b j v : Int} (x : XM h0 q kd va N h i dp C O R) (hb : (b = q ∧ j = 10) ∨ b = q + 7 ∨ b = q + 8) : XM (am_w h0 b j v) q kd va N (am_w h b j v) i dp C O R := by
  have qn := x.qn
  have g := x.g
  have e : ∀ h c z, ¬ (c = b ∧ z = j) → am_m (am_w h b j v) c z = am_m h c z := fun h c z y => by rw [am_m_w, if_neg y]
  have g2 : GR (am_w h0 b j v) q kd va N := by
    refine ⟨g.t, (e _ _ _ (by omega)).trans g.f5, g.t5, g.l5, (e _ _ _ (by omega)).trans g.f8, g.t8, g.l8, (e _ _ _ (by omega)).trans g.f13, g.p.w ?_, g.qb, fun z hz => (e _ _ _ (by omega)).trans (g.ki z hz), g.kv, g.N4, g.en, g.ne, fun d h2 z K f => g.nv d h2 z K (f.b hb)⟩
    rcases hb with y | y
    · obtain ⟨y1, y2⟩ := y
      subst y2
      exact Or.inr (by decide)
    · exact Or.inl (by omega)
  refine ⟨g2, ⟨x.f.1, fun c z z0 z1 z2 z3 z4 z5 => ?_⟩, (e _ _ _ (by omega)).trans x.po, (e _ _ _ (by omega)).trans x.dep, (e _ _ _ (by omega)).trans x.sz, RW.cg (fun z _ _ => e _ _ _ (by omega)) x.co, (e _ _ _ (by omega)).trans x.os, RW.cg (fun z _ _ => e _ _ _ (by omega)) x.op, RW.cg (fun z _ _ => e _ _ _ (by omega)) x.ro, x.rl, x.iN, fun z z1 z2 => (e _ _ _ (by omega)).trans (x.zs z z1 z2)⟩
  rw [am_m_w, am_m_w]
  by_cases y : c = b ∧ z = j
  · rw [if_pos y, if_pos y]
  · rw [if_neg y, if_neg y]
    exact x.f.2 c z z0 z1 z2 z3 z4 z5
theorem XM.p12 (x : XM h0 q kd va N h i dp C O R) : am_m h q 12 = q + 7 ∧ am_t h (q + 7) = 20 ∧ am_l h (q + 7) = 13 ∧ am_m h q 13 = q + 8 ∧ am_t h (q + 8) = 20 ∧ am_l h (q + 8) = 13 := by
  have qn := x.qn
  have p := x.g.p
  have e : ∀ j, j ≠ 15 ∧ j ≠ 17 → am_m h q j = am_m h0 q j := fun j hj => x.f.2 q j (by omega) (by omega) (by omega) (by omega) (by omega) (by omega)
  exact ⟨(e _ (by decide)).trans p.f12, (x.tg (by omega)).trans p.t7, (x.lg (by omega)).trans p.l7, (e _ (by decide)).trans p.f13, (x.tg (by omega)).trans p.t8, (x.lg (by omega)).trans p.l8⟩
end
/-- a list half read -/
def XR (h1 h0 : AH) (q : Int) (kd va : Nat → Int) (N : Nat) (h : AH) (i : Nat) (B : List (Nat × List Op)) (R : List Int) : Prop := XM h0 q kd va N h i 0 (mcs va (bos B)) (mos va 0 (bos B)) R ∧ WW (mcs va (bos B)) (mos va 0 (bos B)) i 0 ∧ FQM h1 h0 q ∧ am_m h0 q 10 = (B.length : Int) ∧ XQ h0 q va 0 0 B ∧ B.length ≤ i
def PR2 (h1 : AH) (q : Int) (kd va : Nat → Int) (N : Nat) (B : List (Nat × List Op)) (R : List Int) (K : AK) : LR → Prop
  | .inl j => j ≤ N → ∀ h2, FQM h1 h2 q → am_m h2 53 10 = (j : Int) → K 0 0 h2
  | .inr (j, s, t) => ∀ h0 h2, XR h1 h0 q kd va N h2 j (B ++ s) (R ++ t) → K 0 1 h2
section
variable {d D n : Nat} {h1 h0 h : AH} {q : Int} {kd va : Nat → Int} {N i : Nat} {B : List (Nat × List Op)} {R : List Int} {K : AK}
theorem XR.t (x : XR h1 h0 q kd va N h i B R) : am_t h 53 = 9 := x.1.t
theorem XR.nx {h2 : AH} {ro : Int} (x : XR h1 h0 q kd va N h i B R) (x2 : XM h0 q kd va N h2 (i + 1) 0 (mcs va (bos B)) (mos va 0 (bos B)) (R ++ [ro])) : XR h1 h0 q kd va N h2 (i + 1) B (R ++ [ro]) := ⟨x2, x.2.1.up.le (Nat.zero_le _), x.2.2.1, x.2.2.2.1, x.2.2.2.2.1, Nat.le_succ_of_le x.2.2.2.2.2⟩
theorem PR2.er (x : XR h1 h0 q kd va N h i B R) (k : PR2 h1 q kd va N B R K (.inl i)) : K 0 0 h := k x.1.iN h (x.2.2.1.tr x.1.f.q) x.1.po
theorem PR2.ok (x : XR h1 h0 q kd va N h i B R) (k : PR2 h1 q kd va N B R K (.inr (i, [], []))) : K 0 1 h := by
  refine k h0 h ?_
  rw [List.append_nil, List.append_nil]
  exact x
theorem PR2.ty {c ro : Int} {f : LF} (z : kd i = c) (k : PR2 h1 q kd va N B R K (bndL (tkL kd c ro i) f)) : PR2 h1 q kd va N B (R ++ [ro]) K (f (i + 1)) := by
  unfold tkL at k
  rw [if_pos z] at k
  have k' : PR2 h1 q kd va N B R K (match f (i + 1) with | .inl k => .inl k | .inr (k, s2, t2) => .inr (k, [] ++ s2, [ro] ++ t2)) := k
  revert k'
  cases f (i + 1) with
  | inl m => exact fun k' => k'
  | inr q2 =>
    obtain ⟨m, s2, t2⟩ := q2
    intro k' h3 h4 x3
    refine k' h3 h4 ?_
    rw [List.nil_append, ← List.append_assoc]
    exact x3
theorem PR2.tn {c ro : Int} {f : LF} (z : kd i ≠ c) (k : PR2 h1 q kd va N B R K (bndL (tkL kd c ro i) f)) : PR2 h1 q kd va N B R K (.inl i) := by
  unfold tkL at k
  rw [if_neg z] at k
  exact k
theorem PR2.fy {c ro : Int} (z : kd i = c) (k : PR2 h1 q kd va N B R K (tkL kd c ro i)) : PR2 h1 q kd va N B (R ++ [ro]) K (.inr (i + 1, [], [])) := by
  unfold tkL at k
  rw [if_pos z] at k
  intro h3 h4 x3
  refine k h3 h4 ?_
  rw [List.append_nil (R ++ [ro])] at x3
  exact x3
theorem PR2.fn {c ro : Int} (z : kd i ≠ c) (k : PR2 h1 q kd va N B R K (tkL kd c ro i)) : PR2 h1 q kd va N B R K (.inl i) := by
  unfold tkL at k
  rw [if_neg z] at k
  exact k
/-! a taking in a row of ands -/
theorem c170L {a as : Int} {f : LF} {G : AH → Prop} (c ro : Int) (hc : KV c) (hc2 : c ≠ 260 ∧ c ≠ 261) (e : a = rk c) (er : as = mr ro) (hD : 2 ≤ D) (x : XR h1 h0 q kd va N h i B R) (k : PR2 h1 q kd va N B R K (bndL (tkL kd c ro i) f)) (hT : ∀ h2, XR h1 h0 q kd va N h2 (i + 1) B (R ++ [ro]) → PR2 h1 q kd va N B (R ++ [ro]) K (f (i + 1)) → G h2) : am_call D 170 [(2, 53), (0, a), (0, as)] h (fun x v h => am_okx x ((v = 0 → ((0 : Int) = 0 ∨ (0 : Int) = 1) ∧ K 0 0 h) ∧ (¬ v = 0 → G h))) :=
  c170 c ro hc hc2 e er hD x.1 (fun z h2 x2 => okx ⟨fun y => absurd y (by decide), fun _ => hT h2 (x.nx x2) (k.ty z)⟩) (fun z h2 f2 e2 => okx ⟨fun _ => ⟨Or.inl rfl, k.tn z x.1.iN h2 (x.2.2.1.tr f2.q) e2⟩, fun y => absurd rfl y⟩)
theorem c168L {a : Int} {f : LF} {G : AH → Prop} (c : Int) (hc : KV c) (hc2 : c ≠ 260 ∧ c ≠ 261) (e : a = rk c) (hD : 1 ≤ D) (x : XR h1 h0 q kd va N h i B R) (k : PR2 h1 q kd va N B R K (bndL (tkL kd c 0 i) f)) (hT : ∀ h2, XR h1 h0 q kd va N h2 (i + 1) B (R ++ [0]) → PR2 h1 q kd va N B (R ++ [0]) K (f (i + 1)) → G h2) : am_call D 168 [(2, 53), (0, a)] h (fun x v h => am_okx x ((v = 0 → ((0 : Int) = 0 ∨ (0 : Int) = 1) ∧ K 0 0 h) ∧ (¬ v = 0 → G h))) :=
  c168 c hc hc2 e hD x.1 (fun z h2 x2 => okx ⟨fun y => absurd y (by decide), fun _ => hT h2 (x.nx x2) (k.ty z)⟩) (fun z => okx ⟨fun _ => ⟨Or.inl rfl, PR2.er x (k.tn z)⟩, fun y => absurd rfl y⟩)
theorem c170F {a as : Int} (c ro : Int) (hc : KV c) (hc2 : c ≠ 260 ∧ c ≠ 261) (e : a = rk c) (er : as = mr ro) (hD : 2 ≤ D) (x : XR h1 h0 q kd va N h i B R) (k : PR2 h1 q kd va N B R K (tkL kd c ro i)) : am_call D 170 [(2, 53), (0, a), (0, as)] h K :=
  c170 c ro hc hc2 e er hD x.1 (fun z h2 x2 => PR2.ok (x.nx x2) (k.fy z)) (fun z h2 f2 e2 => k.fn z x.1.iN h2 (x.2.2.1.tr f2.q) e2)
theorem PR2.bv {r : LR} (k : PR2 h1 q kd va N B R K r) : PR2 h1 q kd va N B R (fun x v h => am_okx x ((v = 0 ∨ v = 1) ∧ K 0 v h)) r := by
  cases r with
  | inl j => exact fun z h2 f e => okx ⟨Or.inl rfl, k z h2 f e⟩
  | inr r => exact fun h0 h2 x => okx ⟨Or.inr rfl, k h0 h2 x⟩
theorem PR2.la {r : LR} (k : PR2 h1 q kd va N B R K r) : PR2 h1 q kd va N B R (fun x v h => am_okx x ((v = 0 → ((0 : Int) = 0 ∨ (0 : Int) = 1) ∧ K 0 0 h) ∧ (¬ v = 0 → ((1 : Int) = 0 ∨ (1 : Int) = 1) ∧ K 0 1 h))) r := by
  cases r with
  | inl j => exact fun z h2 f e => okx ⟨fun _ => ⟨Or.inl rfl, k z h2 f e⟩, fun z => absurd rfl z⟩
  | inr r => exact fun h0 h2 x => okx ⟨fun z => absurd z (by decide), fun _ => ⟨Or.inr rfl, k h0 h2 x⟩⟩
theorem PR2.ch {r : LR} {f : LF} {G : AH → Prop} (k : PR2 h1 q kd va N B R K (bndL r f)) (hT : ∀ j s t h0 h2, XR h1 h0 q kd va N h2 j (B ++ s) (R ++ t) → PR2 h1 q kd va N (B ++ s) (R ++ t) K (f j) → G h2) : PR2 h1 q kd va N B R (fun x v h => am_okx x ((v = 0 → ((0 : Int) = 0 ∨ (0 : Int) = 1) ∧ K 0 0 h) ∧ (¬ v = 0 → G h))) r := by
  cases r with
  | inl j => exact fun z h2 f e => okx ⟨fun _ => ⟨Or.inl rfl, k z h2 f e⟩, fun z => absurd rfl z⟩
  | inr r =>
    obtain ⟨j, s, t⟩ := r
    refine fun h0 h2 x => okx ⟨fun z => absurd z (by decide), fun _ => hT j s t h0 h2 x ?_⟩
    have k' : PR2 h1 q kd va N B R K (match f j with | .inl k => .inl k | .inr (k, s2, t2) => .inr (k, s ++ s2, t ++ t2)) := k
    revert k'
    cases f j with
    | inl m => exact fun k' => k'
    | inr q2 =>
      obtain ⟨m, s2, t2⟩ := q2
      intro k' h0 h3 x3
      refine k' h0 h3 ?_
      rw [← List.append_assoc, ← List.append_assoc]
      exact x3
/-- the same, where the answer goes on into a local -/
theorem PR2.lv {r : LR} {f : LF} {G : Int → AH → Prop} (k : PR2 h1 q kd va N B R K (bndL r f)) (hT : ∀ v j s t h0 h2, XR h1 h0 q kd va N h2 j (B ++ s) (R ++ t) → PR2 h1 q kd va N (B ++ s) (R ++ t) K (f j) → G v h2) : PR2 h1 q kd va N B R (fun x v h => am_okx x ((v = 0 → ((0 : Int) = 0 ∨ (0 : Int) = 1) ∧ K 0 0 h) ∧ (¬ v = 0 → G v h))) r := by
  cases r with
  | inl j => exact fun z h2 f e => okx ⟨fun _ => ⟨Or.inl rfl, k z h2 f e⟩, fun z => absurd rfl z⟩
  | inr r =>
    obtain ⟨j, s, t⟩ := r
    refine fun h0 h2 x => okx ⟨fun z => absurd z (by decide), fun _ => hT 1 j s t h0 h2 x ?_⟩
    have k' : PR2 h1 q kd va N B R K (match f j with | .inl k => .inl k | .inr (k, s2, t2) => .inr (k, s ++ s2, t ++ t2)) := k
    revert k'
    cases f j with
    | inl m => exact fun k' => k'
    | inr q2 =>
      obtain ⟨m, s2, t2⟩ := q2
      intro k' h0 h3 x3
      refine k' h0 h3 ?_
      rw [← List.append_assoc, ← List.append_assoc]
      exact x3
/-! lines without a test: their keyword is known -/
theorem c173 (hD : 3 ≤ D) (z : kd i = 300) (x : XR h1 h0 q kd va N h i B R) (k : PR2 h1 q kd va N B R K (gWard kd i)) : am_call D 173 [(2, 53)] h K := by
  obtain ⟨d, rfl⟩ : ∃ d, D = d + 1 := ⟨D - 1, by omega⟩
  have N4 := x.1.g.N4
  have iN := x.1.iN
  refine v173 ?_
  rw [x.1.po, w32_nat (by omega)]
  refine ⟨x.t, x.t, x.t, ?_⟩
  exact c170L 256 1 (kvk (by decide)) (by decide) rfl rfl (by omega) (x.nx (x.1.nx (x.1.lt (by decide) z))) (k.ty z) fun _ x k => ⟨x.t, c168L 301 (kvk (by decide)) (by decide) rfl (by omega) x k fun _ x k => ⟨x.t, c170F 257 5 (kvk (by decide)) (by decide) rfl rfl (by omega) x k.la⟩⟩
theorem c174 (hD : 3 ≤ D) (z : kd i = 302) (x : XR h1 h0 q kd va N h i B R) (k : PR2 h1 q kd va N B R K (gProj kd i)) : am_call D 174 [(2, 53)] h K := by
  obtain ⟨d, rfl⟩ : ∃ d, D = d + 1 := ⟨D - 1, by omega⟩
  have N4 := x.1.g.N4
  have iN := x.1.iN
  refine v174 ?_
  rw [x.1.po, w32_nat (by omega)]
  refine ⟨x.t, x.t, x.t, ?_⟩
  exact c170L 256 2 (kvk (by decide)) (by decide) rfl rfl (by omega) (x.nx (x.1.nx (x.1.lt (by decide) z))) (k.ty z) fun _ x k => ⟨x.t, c168L 303 (kvk (by decide)) (by decide) rfl (by omega) x k fun _ x k => ⟨x.t, c170L 257 6 (kvk (by decide)) (by decide) rfl rfl (by omega) x k fun _ x k => ⟨x.t, c168L 304 (kvk (by decide)) (by decide) rfl (by omega) x k fun _ x k => ⟨x.t, c170L 256 9 (kvk (by decide)) (by decide) rfl rfl (by omega) x k fun _ x k => ⟨x.t, c168L 305 (kvk (by decide)) (by decide) rfl (by omega) x k fun _ x k => ⟨x.t, c170F 257 7 (kvk (by decide)) (by decide) rfl rfl (by omega) x k.la⟩⟩⟩⟩⟩⟩
theorem c176 (hD : 3 ≤ D) (z : kd i = 308) (x : XR h1 h0 q kd va N h i B R) (k : PR2 h1 q kd va N B R K (gBud kd i)) : am_call D 176 [(2, 53)] h K := by
  obtain ⟨d, rfl⟩ : ∃ d, D = d + 1 := ⟨D - 1, by omega⟩
  have N4 := x.1.g.N4
  have iN := x.1.iN
  refine v176 ?_
  rw [x.1.po, w32_nat (by omega)]
  refine ⟨x.t, x.t, x.t, ?_⟩
  exact c170F 257 8 (kvk (by decide)) (by decide) rfl rfl (by omega) (x.nx (x.1.nx (x.1.lt (by decide) z))) (k.ty z).bv
theorem c175_46 (hd : 2 ≤ d) : ∀ n : Nat, ∀ {i : Nat} {h : AH} {R : List Int} (j : Nat), j + n = 400 → j ≤ i → XR h1 h0 q kd va N h i B R → PR2 h1 q kd va N B R K (gLk kd n i) → WP (d + 1) 175 (46, [(2, 53)], [], h, 0, 0) K := by
  intro n
  induction n with
  | zero =>
    intro i h R j hj ji x k
    have N4 := x.1.g.N4
    have iN := x.1.iN
    have en := x.1.g.en
    have e : i = N := by omega
    exact v175_46 ⟨x.t, c166 256 (kvk (by decide)) rfl x.1 (isn (by rw [e]; omega) ⟨Or.inr rfl, PR2.ok x k⟩)⟩
  | succ n ih =>
    intro i h R j hj ji x k
    have k' : PR2 h1 q kd va N B R K (if kd i = 256 then bndL (tkL kd 256 10 i) (gLk kd n) else .inr (i, [], [])) := k
    by_cases z : kd i = 256
    · rw [if_pos z] at k'
      exact v175_46 ⟨x.t, c166 256 (kvk (by decide)) rfl x.1 (isy z ⟨x.t, c170 256 10 (kvk (by decide)) (by decide) rfl rfl (by omega) x.1 (fun _ h2 x2 => okx (ih (j + 1) (by omega) (by omega) (x.nx x2) (k'.ty z))) (fun y => absurd z y)⟩)⟩
    · rw [if_neg z] at k'
      exact v175_46 ⟨x.t, c166 256 (kvk (by decide)) rfl x.1 (isn z ⟨Or.inr rfl, PR2.ok x k'⟩)⟩
theorem c175 (hD : 3 ≤ D) (z : kd i = 306) (x : XR h1 h0 q kd va N h i B R) (k : PR2 h1 q kd va N B R K (gVot kd i)) : am_call D 175 [(2, 53)] h K := by
  obtain ⟨d, rfl⟩ : ∃ d, D = d + 1 := ⟨D - 1, by omega⟩
  have N4 := x.1.g.N4
  have iN := x.1.iN
  refine v175 ?_
  rw [x.1.po, w32_nat (by omega)]
  refine ⟨x.t, x.t, x.t, ?_⟩
  refine c170L 256 3 (kvk (by decide)) (by decide) rfl rfl (by omega) (x.nx (x.1.nx (x.1.lt (by decide) z))) (k.ty z) fun h2 x2 k2 => ⟨x2.t, ?_⟩
  have k3 : PR2 h1 q kd va N B (R ++ [0] ++ [3]) K (if kd (i + 1 + 1) = 307 then bndL (tkL kd 307 0 (i + 1 + 1)) fun i => bndL (tkL kd 256 10 i) (gLk kd 400) else .inr (i + 1 + 1, [], [])) := k2
  refine c168 307 (kvk (by decide)) (by decide) rfl (by omega) x2.1 (fun y h3 x3 => okx ⟨fun y => absurd y (by decide), fun _ => ⟨x3.t, ?_⟩⟩) (fun y => okx ⟨fun _ => ⟨Or.inr rfl, ?_⟩, fun y => absurd rfl y⟩)
  · rw [if_pos y] at k3
    exact c170L 256 10 (kvk (by decide)) (by decide) rfl rfl (by omega) (x2.nx x3) (k3.ty y) fun h4 x4 k4 => c175_46 (by omega) 400 0 rfl (Nat.zero_le _) x4 k4
  · rw [if_neg y] at k3
    exact PR2.ok x2 k3
/-! a ban -/
theorem gBan_0 (z : kd i ≠ 309) : gBan kd i = .inl i := by
  unfold gBan tk
  rw [if_neg z]
  rfl
theorem gBan_1 (z : kd i = 309) (z2 : kd (i + 1) ≠ 256) : gBan kd i = .inl (i + 1) := by
  unfold gBan tk
  rw [if_pos z]
  show (match bnd (if kd (i + 1) = 256 then _ else _) _ with | .inl k => (.inl k : PR) | .inr (k, s2, t2) => .inr (k, _ ++ s2, _ ++ t2)) = _
  rw [if_neg z2]
  rfl
theorem gBan_2 (z : kd i = 309) (z2 : kd (i + 1) = 256) (z3 : kd (i + 1 + 1) ≠ 310) : gBan kd i = .inl (i + 1 + 1) := by
  unfold gBan
  simp only [tk, bnd, z, z2, z3, if_true, if_false]
theorem gBan_3 (z : kd i = 309) (z2 : kd (i + 1) = 256) (z3 : kd (i + 1 + 1) = 310) : gBan kd i = match gT kd 8 (i + 1 + 1 + 1) with | .inl j => .inl j | .inr (j, s, t) => .inr (j, s, [4, 11, 0] ++ t) := by
  unfold gBan
  simp only [tk, bnd, z, z2, z3, if_true]
  cases gT kd 8 (i + 1 + 1 + 1) with
  | inl j => rfl
  | inr r => rfl
theorem c177 (hD : 52 ≤ D) (x : XR h1 h0 q kd va N h i B R) (k : PR2 h1 q kd va N B R K (l1 i (gBan kd i))) : am_call D 177 [(2, 53)] h K := by
  obtain ⟨d, rfl⟩ : ∃ d, D = d + 1 := ⟨D - 1, by omega⟩
  have N4 := x.1.g.N4
  have iN := x.1.iN
  have qn := x.1.qn
  obtain ⟨x1, ww, fq, bl, xq, bi⟩ := x
  have wc := ww.1
  refine v177 ⟨x1.t, c170 309 4 (kvk (by decide)) (by decide) rfl rfl (by omega) x1 (fun z h2 x2 => okx ⟨fun y => absurd y (by decide), fun _ => ?_⟩) (fun z h2 f2 e2 => okx ⟨fun _ => ⟨Or.inl rfl, ?_⟩, fun y => absurd rfl y⟩)⟩
  rotate_left
  · rw [gBan_0 z] at k
    exact k iN h2 (fq.tr f2.q) e2
  have b2 : am_m h2 q 10 = (B.length : Int) := by
    rw [x2.f.2 q 10 (by omega) (by omega) (by omega) (by omega) (by omega) (by omega)]
    exact bl
  rw [x2.f13, b2, w32_nat (by omega)]
  have xa : XM (am_w h0 q 10 ((B.length + 1 : Nat) : Int)) q kd va N (am_w h2 q 10 ((B.length + 1 : Nat) : Int)) (i + 1) 0 (mcs va (bos B)) (mos va 0 (bos B)) (R ++ [4]) := x2.rb (Or.inl ⟨rfl, rfl⟩)
  have fqa : FQM h1 (am_w h0 q 10 ((B.length + 1 : Nat) : Int)) q := fq.w (Or.inl ⟨rfl, rfl⟩)
  have tq : am_t h2 q = 7 := x2.p.1
  refine ⟨x2.t, tq, x2.t, tq, tq, xa.t, c170 256 11 (kvk (by decide)) (by decide) rfl rfl (by omega) xa (fun z2 h3 x3 => okx ⟨fun y => absurd y (by decide), fun _ => ⟨x3.t, ?_⟩⟩) (fun z2 h3 f3 e3 => okx ⟨fun _ => ⟨Or.inl rfl, ?_⟩, fun y => absurd rfl y⟩)⟩
  rotate_left
  · rw [gBan_1 z z2] at k
    exact k xa.iN h3 (fqa.tr f3.q) e3
  refine c168 310 (kvk (by decide)) (by decide) rfl (by omega) x3 (fun z3 h4 x4 => okx ⟨fun y => absurd y (by decide), fun _ => ?_⟩) (fun z3 => okx ⟨fun _ => ⟨Or.inl rfl, ?_⟩, fun y => absurd rfl y⟩)
  rotate_left
  · rw [gBan_2 z z2 z3] at k
    exact k x3.iN h3 (fqa.tr x3.f.q) x3.po
  rw [gBan_3 z z2 z3] at k
  obtain ⟨p1, p2, p3, p4, p5, p6⟩ := x4.p12
  rw [x4.f13, p1, p2, p3, x4.sz]
  have xb : XM (am_w (am_w h0 q 10 ((B.length + 1 : Nat) : Int)) (q + 7) (min (B.length : Int) 12) ((mcs va (bos B)).length : Int)) q kd va N (am_w h4 (q + 7) (min (B.length : Int) 12) ((mcs va (bos B)).length : Int)) (i + 1 + 1 + 1) 0 (mcs va (bos B)) (mos va 0 (bos B)) (R ++ [4] ++ [11] ++ [0]) := x4.rb (Or.inr (Or.inl rfl))
  have fqb : FQM h1 (am_w (am_w h0 q 10 ((B.length + 1 : Nat) : Int)) (q + 7) (min (B.length : Int) 12) ((mcs va (bos B)).length : Int)) q := fqa.w (Or.inr (Or.inl rfl))
  refine ⟨x4.t, x4.p.1, x4.t, x4.p.1, ⟨rfl, by omega, by omega⟩, xb.t, m_ts (w := 0) (by omega) xb ((ww.up.up.up).le (Nat.zero_le _)) ?_⟩
  revert k
  cases gT kd 8 (i + 1 + 1 + 1) with
  | inl j => exact fun k hj h5 f5 e5 => okx ⟨fun _ => ⟨Or.inl rfl, k hj h5 (fqb.tr f5.q) e5⟩, fun y => absurd rfl y⟩
  | inr r =>
    obtain ⟨j, s, t⟩ := r
    intro k h5 x5 w5
    obtain ⟨p1, p2, p3, p4, p5, p6⟩ := x5.p12
    refine okx ⟨fun y => absurd y (by decide), fun _ => ?_⟩
    rw [x5.f13, p4, p5, p6, x5.sz]
    refine ⟨x5.t, x5.p.1, x5.t, x5.p.1, ⟨rfl, by omega, by omega⟩, Or.inr rfl, ?_⟩
    have xc := x5.rb (b := q + 8) (j := min (B.length : Int) 12) (v := ((mcs va (bos B) ++ mcs va s).length : Int)) (Or.inr (Or.inr rfl))
    have rl := x5.rl
    have rl0 := x1.rl
    simp only [List.length_append, List.length_cons, List.length_nil] at rl
    refine k (am_w (am_w (am_w h0 q 10 ((B.length + 1 : Nat) : Int)) (q + 7) (min (B.length : Int) 12) ((mcs va (bos B)).length : Int)) (q + 8) (min (B.length : Int) 12) ((mcs va (bos B) ++ mcs va s).length : Int)) _ ⟨?_, ?_, fqb.w (Or.inr (Or.inr rfl)), ?_, ?_, by rw [List.length_append]; show B.length + 1 ≤ j; omega⟩
    · rw [bos_snoc, mcs_app, mos_app, show (0 : Int) + ((mcs va (bos B)).length : Int) = ((mcs va (bos B)).length : Int) by omega]
      rw [List.append_assoc (R ++ [4] ++ [11]), List.append_assoc (R ++ [4]), List.append_assoc R] at xc
      exact xc
    · rw [bos_snoc, mcs_app, mos_app, show (0 : Int) + ((mcs va (bos B)).length : Int) = ((mcs va (bos B)).length : Int) by omega]
      exact w5
    · rw [am_m_w, if_neg (by omega), am_m_w, if_neg (by omega), am_m_w, if_pos ⟨rfl, rfl⟩, List.length_append]
      rfl
    · refine XQ.snoc (XQ.cg (fun z y1 y2 => ?_) xq) (fun hb => ?_)
      · rw [am_m_w, if_neg (by omega), am_m_w, if_neg (by omega), am_m_w, if_neg (by omega), am_m_w, if_neg (by omega), am_m_w, if_neg (by omega), am_m_w, if_neg (by omega)]
        exact ⟨rfl, rfl⟩
      · have e : ((0 + B.length : Nat) : Int) = min (B.length : Int) 12 := by omega
        rw [e]
        refine ⟨?_, ?_⟩
        · rw [am_m_w, if_neg (by omega), am_m_w, if_pos ⟨rfl, rfl⟩]
          omega
        · rw [am_m_w, if_pos ⟨rfl, rfl⟩, List.length_append]
          omega
/-! the whole list -/
theorem c172_0 (hd : 52 ≤ d) : ∀ n : Nat, ∀ {i : Nat} {h0 h : AH} {B : List (Nat × List Op)} {R : List Int} {y1 : AV} (j : Nat), j + n = 400 → j ≤ i → XR h1 h0 q kd va N h i B R → PR2 h1 q kd va N B R K (gAll kd n i) → WP (d + 1) 172 (0, [(2, 53), y1], [], h, 0, 0) K := by
  intro n
  induction n with
  | zero =>
    intro i h0 h B R y1 j hj ji x k
    have N4 := x.1.g.N4
    have iN := x.1.iN
    have en := x.1.g.en
    have e : i = N := by omega
    have k' : PR2 h1 q kd va N B R K (if kd i = 260 then .inr (i, [], []) else .inl i) := k
    by_cases z : kd i = 260
    · rw [if_pos z] at k'
      exact v172_0 ⟨x.t, c166 260 (Or.inr (Or.inl (by decide))) rfl x.1 (isy z ⟨Or.inr rfl, PR2.ok x k'⟩)⟩
    · rw [if_neg z] at k'
      have z2 : kd i = 261 := by
        rw [e] at z ⊢
        omega
      refine v172_0 ⟨x.t, c166 260 (Or.inr (Or.inl (by decide))) rfl x.1 (isn z ⟨x.t, c166 300 (kvk (by decide)) rfl x.1 (isn (by omega) ⟨x.t, c166 302 (kvk (by decide)) rfl x.1 (isn (by omega) ⟨x.t, c166 306 (kvk (by decide)) rfl x.1 (isn (by omega) ⟨x.t, c166 308 (kvk (by decide)) rfl x.1 (isn (by omega) ⟨x.t, c177 (by omega) x ?_⟩)⟩)⟩)⟩)⟩)⟩
      rw [gBan_0 (by omega)]
      exact fun z h2 f e => okx ⟨fun _ => ⟨Or.inl rfl, k' z h2 f e⟩, fun z => absurd rfl z⟩
  | succ n ih =>
    intro i h0 h B R y1 j hj ji x k
    have k' : PR2 h1 q kd va N B R K (if kd i = 260 then .inr (i, [], []) else bndL (gLine kd i) fun i => bndL (tkL kd 59 0 i) (gAll kd n)) := k
    by_cases z : kd i = 260
    · rw [if_pos z] at k'
      exact v172_0 ⟨x.t, c166 260 (Or.inr (Or.inl (by decide))) rfl x.1 (isy z ⟨Or.inr rfl, PR2.ok x k'⟩)⟩
    rw [if_neg z] at k'
    have semi : ∀ (h2 : AH) (v : Int) (i2 : Nat) (s : List (Nat × List Op)) (t : List Int) (h3 : AH), XR h1 h3 q kd va N h2 i2 (B ++ s) (R ++ t) → PR2 h1 q kd va N (B ++ s) (R ++ t) K (bndL (tkL kd 59 0 i2) (gAll kd n)) → am_call d 169 [(2, 53), (0, 59)] h2 (fun x v2 h3 => am_okx x ((v2 = 0 → ((0 : Int) = 0 ∨ (0 : Int) = 1) ∧ K 0 0 h3) ∧ (¬ v2 = 0 → WP (d + 1) 172 (0, [(2, 53), (0, v)], [], h3, 0, 0) K))) := by
      intro h2 v i2 s t h3 x2 k2
      have l1 := x2.1.rl
      have l2 := x.1.rl
      rw [List.length_append] at l1
      exact c169 (by decide) (by omega) x2.1 (fun z h4 x4 => okx ⟨fun y => absurd y (by decide), fun _ => ih (j + 1) (by omega) (by omega) (x2.nx x4) (k2.ty z)⟩) (fun z => okx ⟨fun _ => ⟨Or.inl rfl, PR2.er x2 (k2.tn z)⟩, fun y => absurd rfl y⟩)
    refine v172_0 ⟨x.t, c166 260 (Or.inr (Or.inl (by decide))) rfl x.1 (isn z ⟨x.t, ?_⟩)⟩
    unfold gLine at k'
    by_cases z300 : kd i = 300
    · rw [if_pos z300] at k'
      exact c166 300 (kvk (by decide)) rfl x.1 (isy z300 ⟨x.t, c173 (by omega) z300 x (PR2.lv k' fun v j s t h3 h2 x2 k2 => ⟨x2.t, semi h2 v j s t h3 x2 k2⟩)⟩)
    rw [if_neg z300] at k'
    refine c166 300 (kvk (by decide)) rfl x.1 (isn z300 ⟨x.t, ?_⟩)
    by_cases z302 : kd i = 302
    · rw [if_pos z302] at k'
      exact c166 302 (kvk (by decide)) rfl x.1 (isy z302 ⟨x.t, c174 (by omega) z302 x (PR2.lv k' fun v j s t h3 h2 x2 k2 => ⟨x2.t, semi h2 v j s t h3 x2 k2⟩)⟩)
    rw [if_neg z302] at k'
    refine c166 302 (kvk (by decide)) rfl x.1 (isn z302 ⟨x.t, ?_⟩)
    by_cases z306 : kd i = 306
    · rw [if_pos z306] at k'
      exact c166 306 (kvk (by decide)) rfl x.1 (isy z306 ⟨x.t, c175 (by omega) z306 x (PR2.lv k' fun v j s t h3 h2 x2 k2 => ⟨x2.t, semi h2 v j s t h3 x2 k2⟩)⟩)
    rw [if_neg z306] at k'
    refine c166 306 (kvk (by decide)) rfl x.1 (isn z306 ⟨x.t, ?_⟩)
    by_cases z308 : kd i = 308
    · rw [if_pos z308] at k'
      exact c166 308 (kvk (by decide)) rfl x.1 (isy z308 ⟨x.t, c176 (by omega) z308 x (PR2.lv k' fun v j s t h3 h2 x2 k2 => ⟨x2.t, semi h2 v j s t h3 x2 k2⟩)⟩)
    rw [if_neg z308] at k'
    refine c166 308 (kvk (by decide)) rfl x.1 (isn z308 ⟨x.t, ?_⟩)
    have e : (if kd i = 309 then l1 i (gBan kd i) else .inl i) = l1 i (gBan kd i) := by
      by_cases z9 : kd i = 309
      · rw [if_pos z9]
      · rw [if_neg z9, gBan_0 z9]
        rfl
    rw [e] at k'
    exact c177 (by omega) x (PR2.lv k' fun v j s t h3 h2 x2 k2 => ⟨x2.t, semi h2 v j s t h3 x2 k2⟩)
end
