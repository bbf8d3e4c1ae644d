/-! ===== the reference's grammar: lines ===== -/
def bos : List (Nat × List Op) → List Op
  | [] => []
  | b :: r => b.2 ++ bos r
theorem bos_snoc {b : Nat} {o : List Op} : ∀ {L : List (Nat × List Op)}, bos (L ++ [(b, o)]) = bos L ++ o
  | [] => List.append_nil o
  | a :: r => by
    show a.2 ++ bos (r ++ [(b, o)]) = (a.2 ++ bos r) ++ o
    rw [bos_snoc, List.append_assoc]
/-- where the code of each of the first twelve bans begins and ends -/
def XQ (h : AH) (q : Int) (va : Nat → Int) : Nat → Int → List (Nat × List Op) → Prop
  | _, _, [] => True
  | k, p, b :: r => (k < 12 → am_m h (q + 7) (k : Int) = p ∧ am_m h (q + 8) (k : Int) = p + ((mcs va b.2).length : Int)) ∧ XQ h q va (k + 1) (p + ((mcs va b.2).length : Int)) r
theorem XQ.cg {h h2 : AH} {q : Int} {va : Nat → Int} : ∀ {L : List (Nat × List Op)} {k : Nat} {p : Int}, (∀ j : Nat, j < 12 → j < k + L.length → am_m h2 (q + 7) (j : Int) = am_m h (q + 7) (j : Int) ∧ am_m h2 (q + 8) (j : Int) = am_m h (q + 8) (j : Int)) → XQ h q va k p L → XQ h2 q va k p L
  | [], _, _, _, _ => trivial
  | b :: r, k, p, e, x => by
    have e' : ∀ j : Nat, j < 12 → j < k + (r.length + 1) → am_m h2 (q + 7) (j : Int) = am_m h (q + 7) (j : Int) ∧ am_m h2 (q + 8) (j : Int) = am_m h (q + 8) (j : Int) := e
    refine ⟨fun hk => ?_, XQ.cg (fun j z1 z2 => e' j z1 (by omega)) x.2⟩
    have ek := e' k hk (by omega)
    exact ⟨ek.1.trans (x.1 hk).1, ek.2.trans (x.1 hk).2⟩
theorem XQ.snoc {h : AH} {q : Int} {va : Nat → Int} {i : Nat} {s : List Op} : ∀ {L : List (Nat × List Op)} {k : Nat} {p : Int}, XQ h q va k p L → (k + L.length < 12 → am_m h (q + 7) ((k + L.length : Nat) : Int) = p + ((mcs va (bos L)).length : Int) ∧ am_m h (q + 8) ((k + L.length : Nat) : Int) = p + ((mcs va (bos L)).length : Int) + ((mcs va s).length : Int)) → XQ h q va k p (L ++ [(i, s)])
  | [], k, p, _, e => by
    refine ⟨fun hk => ?_, trivial⟩
    have e' := e hk
    have e2 : am_m h (q + 7) (k : Int) = p + ((0 : Nat) : Int) ∧ am_m h (q + 8) (k : Int) = p + ((0 : Nat) : Int) + ((mcs va s).length : Int) := e'
    rw [show p + ((0 : Nat) : Int) = p by omega] at e2
    exact e2
  | a :: r, k, p, x, e => by
    refine ⟨x.1, XQ.snoc x.2 (fun hk => ?_)⟩
    have e' := e (show k + (r.length + 1) < 12 by omega)
    have e2 : am_m h (q + 7) ((k + (r.length + 1) : Nat) : Int) = p + ((mcs va (a.2 ++ bos r)).length : Int) ∧ am_m h (q + 8) ((k + (r.length + 1) : Nat) : Int) = p + ((mcs va (a.2 ++ bos r)).length : Int) + ((mcs va s).length : Int) := e'
    rw [mcs_app, List.length_append] at e2
    rw [show k + 1 + r.length = k + (r.length + 1) by omega, show p + ((mcs va a.2).length : Int) + ((mcs va (bos r)).length : Int) = p + (((mcs va a.2).length + (mcs va (bos r)).length : Nat) : Int) by omega]
    exact e2
section
variable {d D n : Nat} {h0 h : AH} {q dp : Int} {kd va : Nat → Int} {N i : Nat} {C O R : List Int} {w : Nat} {K : AK}
theorem XM.rb {b j v : Int} (x : XM h0 q kd va N h i dp C O R) (hb : (b = q ∧ j = 10) ∨ b = q + 7 ∨ b = q + 8) : XM (am_w h0 b j v) q kd va N (am_w h b j v) i dp C O R := by
  have qn := x.qn
  have g := x.g
  have e : ∀ h c z, ¬ (c = b ∧ z = j) → am_m (am_w h b j v) c z = am_m h c z := fun h c z y => by rw [am_m_w, if_neg y]
  have g2 : GR (am_w h0 b j v) q kd va N := by
    refine ⟨g.t, (e _ _ _ (by omega)).trans g.f5, g.t5, g.l5, (e _ _ _ (by omega)).trans g.f8, g.t8, g.l8, (e _ _ _ (by omega)).trans g.f13, g.p.w ?_, g.qb, fun z hz => (e _ _ _ (by omega)).trans (g.ki z hz), g.kv, g.N4, g.en, g.ne, fun d h2 z K f => g.nv d h2 z K (f.b hb)⟩
    rcases hb with y | y
    · obtain ⟨y1, y2⟩ := y
      subst y2
      exact Or.inr (by decide)
    · exact Or.inl (by omega)
  refine ⟨g2, ⟨x.f.1, fun c z z0 z1 z2 z3 z4 z5 => ?_⟩, (e _ _ _ (by omega)).trans x.po, (e _ _ _ (by omega)).trans x.dep, (e _ _ _ (by omega)).trans x.sz, RW.cg (fun z _ _ => e _ _ _ (by omega)) x.co, (e _ _ _ (by omega)).trans x.os, RW.cg (fun z _ _ => e _ _ _ (by omega)) x.op, RW.cg (fun z _ _ => e _ _ _ (by omega)) x.ro, x.rl, x.iN, fun z z1 z2 => (e _ _ _ (by omega)).trans (x.zs z z1 z2)⟩
  rw [am_m_w, am_m_w]
  by_cases y : c = b ∧ z = j
  · rw [if_pos y, if_pos y]
  · rw [if_neg y, if_neg y]
    exact x.f.2 c z z0 z1 z2 z3 z4 z5
theorem XM.p12 (x : XM h0 q kd va N h i dp C O R) : am_m h q 12 = q + 7 ∧ am_t h (q + 7) = 20 ∧ am_l h (q + 7) = 13 ∧ am_m h q 13 = q + 8 ∧ am_t h (q + 8) = 20 ∧ am_l h (q + 8) = 13 := by
  have qn := x.qn
  have p := x.g.p
  have e : ∀ j, j ≠ 15 ∧ j ≠ 17 → am_m h q j = am_m h0 q j := fun j hj => x.f.2 q j (by omega) (by omega) (by omega) (by omega) (by omega) (by omega)
  exact ⟨(e _ (by decide)).trans p.f12, (x.tg (by omega)).trans p.t7, (x.lg (by omega)).trans p.l7, (e _ (by decide)).trans p.f13, (x.tg (by omega)).trans p.t8, (x.lg (by omega)).trans p.l8⟩
end
/-- a list half read -/
def XR (h1 h0 : AH) (q : Int) (kd va : Nat → Int) (N : Nat) (h : AH) (i : Nat) (B : List (Nat × List Op)) (R : List Int) : Prop := XM h0 q kd va N h i 0 (mcs va (bos B)) (mos va 0 (bos B)) R ∧ WW (mcs va (bos B)) (mos va 0 (bos B)) i 0 ∧ FQM h1 h0 q ∧ am_m h0 q 10 = (B.length : Int) ∧ XQ h0 q va 0 0 B ∧ B.length ≤ i
def PR2 (h1 : AH) (q : Int) (kd va : Nat → Int) (N : Nat) (B : List (Nat × List Op)) (R : List Int) (K : AK) : LR → Prop
  | .inl j => j ≤ N → ∀ h2, FQM h1 h2 q → am_m h2 53 10 = (j : Int) → K 0 0 h2
  | .inr (j, s, t) => ∀ h0 h2, XR h1 h0 q kd va N h2 j (B ++ s) (R ++ t) → K 0 1 h2
section
variable {d D n : Nat} {h1 h0 h : AH} {q : Int} {kd va : Nat → Int} {N i : Nat} {B : List (Nat × List Op)} {R : List Int} {K : AK}
theorem XR.t (x : XR h1 h0 q kd va N h i B R) : am_t h 53 = 9 := x.1.t
theorem XR.nx {h2 : AH} {ro : Int} (x : XR h1 h0 q kd va N h i B R) (x2 : XM h0 q kd va N h2 (i + 1) 0 (mcs va (bos B)) (mos va 0 (bos B)) (R ++ [ro])) : XR h1 h0 q kd va N h2 (i + 1) B (R ++ [ro]) := ⟨x2, x.2.1.up.le (Nat.zero_le _), x.2.2.1, x.2.2.2.1, x.2.2.2.2.1, Nat.le_succ_of_le x.2.2.2.2.2⟩
theorem PR2.er (x : XR h1 h0 q kd va N h i B R) (k : PR2 h1 q kd va N B R K (.inl i)) : K 0 0 h := k x.1.iN h (x.2.2.1.tr x.1.f.q) x.1.po
theorem PR2.ok (x : XR h1 h0 q kd va N h i B R) (k : PR2 h1 q kd va N B R K (.inr (i, [], []))) : K 0 1 h := by
  refine k h0 h ?_
  rw [List.append_nil, List.append_nil]
  exact x
theorem PR2.ty {c ro : Int} {f : LF} (z : kd i = c) (k : PR2 h1 q kd va N B R K (bndL (tkL kd c ro i) f)) : PR2 h1 q kd va N B (R ++ [ro]) K (f (i + 1)) := by
  unfold tkL at k
  rw [if_pos z] at k
  have k' : PR2 h1 q kd va N B R K (match f (i + 1) with | .inl k => .inl k | .inr (k, s2, t2) => .inr (k, [] ++ s2, [ro] ++ t2)) := k
  revert k'
  cases f (i + 1) with
  | inl m => exact fun k' => k'
  | inr q2 =>
    obtain ⟨m, s2, t2⟩ := q2
    intro k' h3 h4 x3
    refine k' h3 h4 ?_
    rw [List.nil_append, ← List.append_assoc]
    exact x3
theorem PR2.tn {c ro : Int} {f : LF} (z : kd i ≠ c) (k : PR2 h1 q kd va N B R K (bndL (tkL kd c ro i) f)) : PR2 h1 q kd va N B R K (.inl i) := by
  unfold tkL at k
  rw [if_neg z] at k
  exact k
theorem PR2.fy {c ro : Int} (z : kd i = c) (k : PR2 h1 q kd va N B R K (tkL kd c ro i)) : PR2 h1 q kd va N B (R ++ [ro]) K (.inr (i + 1, [], [])) := by
  unfold tkL at k
  rw [if_pos z] at k
  intro h3 h4 x3
  refine k h3 h4 ?_
  rw [List.append_nil (R ++ [ro])] at x3
  exact x3
theorem PR2.fn {c ro : Int} (z : kd i ≠ c) (k : PR2 h1 q kd va N B R K (tkL kd c ro i)) : PR2 h1 q kd va N B R K (.inl i) := by
  unfold tkL at k
  rw [if_neg z] at k
  exact k
/-! a taking in a row of ands -/
theorem PR2.bv {r : LR} (k : PR2 h1 q kd va N B R K r) : PR2 h1 q kd va N B R (fun x v h => am_okx x ((v = 0 ∨ v = 1) ∧ K 0 v h)) r := by
  cases r with
  | inl j => exact fun z h2 f e => okx ⟨Or.inl rfl, k z h2 f e⟩
  | inr r => exact fun h0 h2 x => okx ⟨Or.inr rfl, k h0 h2 x⟩
theorem PR2.la {r : LR} (k : PR2 h1 q kd va N B R K r) : PR2 h1 q kd va N B R (fun x v h => am_okx x ((v = 0 → ((0 : Int) = 0 ∨ (0 : Int) = 1) ∧ K 0 0 h) ∧ (¬ v = 0 → ((1 : Int) = 0 ∨ (1 : Int) = 1) ∧ K 0 1 h))) r := by
  cases r with
  | inl j => exact fun z h2 f e => okx ⟨fun _ => ⟨Or.inl rfl, k z h2 f e⟩, fun z => absurd rfl z⟩
  | inr r => exact fun h0 h2 x => okx ⟨fun z => absurd z (by decide), fun _ => ⟨Or.inr rfl, k h0 h2 x⟩⟩
theorem PR2.ch {r : LR} {f : LF} {G : AH → Prop} (k : PR2 h1 q kd va N B R K (bndL r f)) (hT : ∀ j s t h0 h2, XR h1 h0 q kd va N h2 j (B ++ s) (R ++ t) → PR2 h1 q kd va N (B ++ s) (R ++ t) K (f j) → G h2) : PR2 h1 q kd va N B R (fun x v h => am_okx x ((v = 0 → ((0 : Int) = 0 ∨ (0 : Int) = 1) ∧ K 0 0 h) ∧ (¬ v = 0 → G h))) r := by
  cases r with
  | inl j => exact fun z h2 f e => okx ⟨fun _ => ⟨Or.inl rfl, k z h2 f e⟩, fun z => absurd rfl z⟩
  | inr r =>
    obtain ⟨j, s, t⟩ := r
    refine fun h0 h2 x => okx ⟨fun z => absurd z (by decide), fun _ => hT j s t h0 h2 x ?_⟩
    have k' : PR2 h1 q kd va N B R K (match f j with | .inl k => .inl k | .inr (k, s2, t2) => .inr (k, s ++ s2, t ++ t2)) := k
    revert k'
    cases f j with
    | inl m => exact fun k' => k'
    | inr q2 =>
      obtain ⟨m, s2, t2⟩ := q2
      intro k' h0 h3 x3
      refine k' h0 h3 ?_
      rw [← List.append_assoc, ← List.append_assoc]
      exact x3
/-- the same, where the answer goes on into a local -/
theorem PR2.lv {r : LR} {f : LF} {G : Int → AH → Prop} (k : PR2 h1 q kd va N B R K (bndL r f)) (hT : ∀ v j s t h0 h2, XR h1 h0 q kd va N h2 j (B ++ s) (R ++ t) → PR2 h1 q kd va N (B ++ s) (R ++ t) K (f j) → G v h2) : PR2 h1 q kd va N B R (fun x v h => am_okx x ((v = 0 → ((0 : Int) = 0 ∨ (0 : Int) = 1) ∧ K 0 0 h) ∧ (¬ v = 0 → G v h))) r := by
  cases r with
  | inl j => exact fun z h2 f e => okx ⟨fun _ => ⟨Or.inl rfl, k z h2 f e⟩, fun z => absurd rfl z⟩
  | inr r =>
    obtain ⟨j, s, t⟩ := r
    refine fun h0 h2 x => okx ⟨fun z => absurd z (by decide), fun _ => hT 1 j s t h0 h2 x ?_⟩
    have k' : PR2 h1 q kd va N B R K (match f j with | .inl k => .inl k | .inr (k, s2, t2) => .inr (k, s ++ s2, t ++ t2)) := k
    revert k'
    cases f j with
    | inl m => exact fun k' => k'
    | inr q2 =>
      obtain ⟨m, s2, t2⟩ := q2
      intro k' h0 h3 x3
      refine k' h0 h3 ?_
      rw [← List.append_assoc, ← List.append_assoc]
      exact x3
/-! lines without a test: their keyword is known -/
/-! a ban -/
theorem gBan_0 (z : kd i ≠ 309) : gBan kd i = .inl i := by
  unfold gBan tk
  rw [if_neg z]
  rfl
theorem gBan_1 (z : kd i = 309) (z2 : kd (i + 1) ≠ 256) : gBan kd i = .inl (i + 1) := by
  unfold gBan tk
  rw [if_pos z]
  show (match bnd (if kd (i + 1) = 256 then _ else _) _ with | .inl k => (.inl k : PR) | .inr (k, s2, t2) => .inr (k, _ ++ s2, _ ++ t2)) = _
  rw [if_neg z2]
  rfl
theorem gBan_2 (z : kd i = 309) (z2 : kd (i + 1) = 256) (z3 : kd (i + 1 + 1) ≠ 310) : gBan kd i = .inl (i + 1 + 1) := by
  unfold gBan
  simp only [tk, bnd, z, z2, z3, if_true, if_false]
theorem gBan_3 (z : kd i = 309) (z2 : kd (i + 1) = 256) (z3 : kd (i + 1 + 1) = 310) : gBan kd i = match gT kd 8 (i + 1 + 1 + 1) with | .inl j => .inl j | .inr (j, s, t) => .inr (j, s, [4, 11, 0] ++ t) := by
  unfold gBan
  simp only [tk, bnd, z, z2, z3, if_true]
  cases gT kd 8 (i + 1 + 1 + 1) with
  | inl j => rfl
  | inr r => rfl
/-! the whole list -/
end
