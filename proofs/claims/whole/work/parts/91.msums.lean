/-! ===== the reference's grammar: names, values, products, sums ===== -/
theorem isn {P A B : Prop} [Decidable P] (hn : ¬ P) (a : A) : am_okx 0 (((if P then (1 : Int) else 0) = 0 → A) ∧ (¬ (if P then (1 : Int) else 0) = 0 → B)) := by
  rw [if_neg hn]
  exact ⟨fun _ => a, fun y => absurd rfl y⟩
theorem isy {P A B : Prop} [Decidable P] (hp : P) (b : B) : am_okx 0 (((if P then (1 : Int) else 0) = 0 → A) ∧ (¬ (if P then (1 : Int) else 0) = 0 → B)) := by
  rw [if_pos hp]
  exact ⟨fun y => absurd y (by decide), fun _ => b⟩
theorem kvk {c : Int} (h : 256 ≤ c ∧ c ≤ 257 ∨ 300 ≤ c ∧ c ≤ 321) : KV c := by
  unfold KV
  omega
theorem WW.up {C O : List Int} {i w : Nat} (x : WW C O i w) : WW C O (i + 1) (w + 1) := ⟨by have := x.1; omega, by have := x.2; omega⟩
theorem WW.le {C O : List Int} {i w w2 : Nat} (x : WW C O i w) (h : w2 ≤ w) : WW C O i w2 := ⟨by have := x.1; omega, by have := x.2; omega⟩
theorem WW.put {C O : List Int} {i w : Nat} {v : Int} (x : WW C O i (w + 1)) : WW (C ++ [v]) O i w := ⟨by
  have := x.1
  rw [List.length_append]
  show C.length + 1 + 2 * w ≤ 2 * i
  omega, by have := x.2; omega⟩
section
variable {kd : Nat → Int} {lv : Option (GF × GF)} {i : Nat}
theorem gVal_40 (z : kd i = 40) : gVal kd lv i = (gPar kd lv i) := by
  unfold gVal
  rw [if_pos z]
theorem gVal_45 (z : kd i = 45) : gVal kd lv i = (gNeg kd lv i) := by
  unfold gVal
  rw [if_neg (by omega), if_pos z]
theorem gVal_257 (z : kd i = 257) : gVal kd lv i = (gNum i) := by
  unfold gVal
  rw [if_neg (by omega), if_neg (by omega), if_pos z]
theorem gVal_303 (z : kd i = 303) : gVal kd lv i = (bnd (tk kd 303 0 i) (nm kd 12 4)) := by
  unfold gVal
  rw [if_neg (by omega), if_neg (by omega), if_neg (by omega), if_pos z]
theorem gVal_311 (z : kd i = 311) : gVal kd lv i = (bnd (tk kd 311 0 i) (em (2, 0, 0))) := by
  unfold gVal
  rw [if_neg (by omega), if_neg (by omega), if_neg (by omega), if_neg (by omega), if_pos z]
theorem gVal_312 (z : kd i = 312) : gVal kd lv i = (bnd (tk kd 312 0 i) (em (3, 0, 0))) := by
  unfold gVal
  rw [if_neg (by omega), if_neg (by omega), if_neg (by omega), if_neg (by omega), if_neg (by omega), if_pos z]
theorem gVal_313 (z : kd i = 313) : gVal kd lv i = (bnd (tk kd 313 0 i) (nm kd 13 6)) := by
  unfold gVal
  rw [if_neg (by omega), if_neg (by omega), if_neg (by omega), if_neg (by omega), if_neg (by omega), if_neg (by omega), if_pos z]
theorem gVal_314 (z : kd i = 314) : gVal kd lv i = (bnd (tk kd 314 0 i) (nm kd 12 5)) := by
  unfold gVal
  rw [if_neg (by omega), if_neg (by omega), if_neg (by omega), if_neg (by omega), if_neg (by omega), if_neg (by omega), if_neg (by omega), if_pos z]
theorem gVal_316 (z : kd i = 316) : gVal kd lv i = (bnd (tk kd 316 0 i) (nm kd 13 7)) := by
  unfold gVal
  rw [if_neg (by omega), if_neg (by omega), if_neg (by omega), if_neg (by omega), if_neg (by omega), if_neg (by omega), if_neg (by omega), if_neg (by omega), if_pos z]
theorem gVal_320 (z : kd i = 320) : gVal kd lv i = (bnd (tk kd 320 0 i) fun i => bnd (gPair kd lv i) (em (16, 0, 0))) := by
  unfold gVal
  rw [if_neg (by omega), if_neg (by omega), if_neg (by omega), if_neg (by omega), if_neg (by omega), if_neg (by omega), if_neg (by omega), if_neg (by omega), if_neg (by omega), if_pos z]
theorem gVal_321 (z : kd i = 321) : gVal kd lv i = (bnd (tk kd 321 0 i) fun i => bnd (gPair kd lv i) (em (17, 0, 0))) := by
  unfold gVal
  rw [if_neg (by omega), if_neg (by omega), if_neg (by omega), if_neg (by omega), if_neg (by omega), if_neg (by omega), if_neg (by omega), if_neg (by omega), if_neg (by omega), if_neg (by omega), if_pos z]
theorem gVal_no (z40 : kd i ≠ 40) (z45 : kd i ≠ 45) (z257 : kd i ≠ 257) (z303 : kd i ≠ 303) (z311 : kd i ≠ 311) (z312 : kd i ≠ 312) (z313 : kd i ≠ 313) (z314 : kd i ≠ 314) (z316 : kd i ≠ 316) (z320 : kd i ≠ 320) (z321 : kd i ≠ 321) : gVal kd lv i = .inl i := by
  unfold gVal
  rw [if_neg z40, if_neg z45, if_neg z257, if_neg z303, if_neg z311, if_neg z312, if_neg z313, if_neg z314, if_neg z316, if_neg z320, if_neg z321]
end
section
variable {d D n : Nat} {h0 h : AH} {q dp : Int} {kd va : Nat → Int} {N i : Nat} {C O R : List Int} {w : Nat} {K : AK}
theorem c181 {as : Int} (ro : Int) (er : as = mr ro) (hD : 3 ≤ D) (hC : C.length < 800) (hO : O.length < 400) (x : XM h0 q kd va N h i dp C O R) (kY : kd i = 256 → ∀ h2, XM h0 q kd va N h2 (i + 1) dp (C ++ [(i : Int)]) (O ++ [(C.length : Int)]) (R ++ [ro]) → K 0 1 h2) (kN : kd i ≠ 256 → ∀ h2, FM h0 h2 q → am_m h2 53 10 = (i : Int) → K 0 0 h2) : am_call D 181 [(2, 53), (0, as)] h K := by
  obtain ⟨d, rfl⟩ : ∃ d, D = d + 1 := ⟨D - 1, by omega⟩
  have qn := x.qn
  obtain ⟨p1, p2, p3, p4, p5, p6, p7⟩ := x.p
  have x2 := x.opn (C.length : Int)
  rw [show ((O.length + 1 : Nat) : Int) = (O.length : Int) + 1 by omega] at x2
  have e : ∀ b j v1 v2, b ≠ q + 10 → am_m (am_w h (q + 10) v1 v2) b j = am_m h b j := fun b j v1 v2 z => by rw [am_m_w, if_neg (fun y => z y.1)]
  refine v181 ?_
  simp only [am_t_w, x.f13, p5, x.os, p6, p7, x.sz, e 53 _ _ _ (by omega), e q _ _ _ (by omega), x.t, p1, true_and]
  rw [w32_id (x := (O.length : Int) + 1) (by omega) (by omega), x2.po]
  refine ⟨⟨by omega, by omega⟩, c171 hC x2 fun h3 x3 => okx ⟨x3.t, ?_⟩⟩
  exact c170 256 ro (kvk (by decide)) (by decide) rfl er (by omega) x3 (fun z h4 x4 => okx ⟨Or.inr rfl, kY z h4 x4⟩) (fun z h4 f4 e4 => okx ⟨Or.inl rfl, kN z h4 f4 e4⟩)
theorem c182b {as : Int} (ro : Int) (er : as = mr ro) (hD : 4 ≤ D) (hi : i < N) (hC : C.length + 1 < 800) (hO : O.length < 400) (x : XM h0 q kd va N h i dp C O R) (kY : kd (i + 1) = 256 → ∀ h2, XM h0 q kd va N h2 (i + 1 + 1) dp (C ++ [rk (kd i)] ++ [((i + 1 : Nat) : Int)]) (O ++ [(C.length : Int) + 1]) (R ++ [0] ++ [ro]) → K 0 1 h2) (kN : kd (i + 1) ≠ 256 → ∀ h2, FM h0 h2 q → am_m h2 53 10 = ((i + 1 : Nat) : Int) → K 0 0 h2) : am_call D 182 [(2, 53), (0, as)] h K := by
  obtain ⟨d, rfl⟩ : ∃ d, D = d + 1 := ⟨D - 1, by omega⟩
  have N4 := x.g.N4
  refine v182 ?_
  rw [x.f5, x.po, x.ki, x.t5, x.l5]
  refine ⟨x.t, x.t, ⟨rfl, by omega, by omega⟩, x.t, c171 (by omega) x fun h2 x2 => okx ⟨x2.t, x2.t, x2.t, ?_⟩⟩
  rw [x2.po, w32_nat (by omega)]
  have e : ((C ++ [rk (kd i)]).length : Int) = (C.length : Int) + 1 := by
    rw [List.length_append]
    rfl
  refine c181 ro er (by omega) (by rw [List.length_append]; exact hC) hO (x2.nx hi) (fun z h3 x3 => okx ⟨Or.inr rfl, kY z h3 ?_⟩) (fun z h3 f3 e3 => okx ⟨Or.inl rfl, kN z h3 f3 e3⟩)
  rw [e] at x3
  exact x3
/-- a name behind a keyword -/
theorem c182 {as c : Int} (ro cc : Int) (er : as = mr ro) (hcc : 4 ≤ cc ∧ cc ≤ 8) (z : kd i = c) (hc : c ≠ 260 ∧ c ≠ 261) (em : mco cc = rk c) (hD : 4 ≤ D) (x : XM h0 q kd va N h i dp C O R) (ww : WW C O i w) (k : PM h0 q kd va N dp C O R w K (bnd (tk kd c 0 i) (nm kd ro cc))) : am_call D 182 [(2, 53), (0, as)] h K := by
  have N4 := x.g.N4
  have hi := x.lt hc z
  have w1 := ww.1
  have w2 := ww.2
  have k2 := k.ty z
  have k3 : PM h0 q kd va N dp C O (R ++ [0]) w K (if kd (i + 1) = 256 then .inr (i + 1 + 1, [(cc, ((i + 1 : Nat) : Int), 0)], [ro]) else .inl (i + 1)) := k2
  refine c182b ro er hD hi (by omega) (by omega) x (fun y h2 x2 => ?_) (fun y h2 f2 e2 => ?_)
  · rw [if_pos y] at k3
    have e1 : mcs va [(cc, ((i + 1 : Nat) : Int), 0)] = [rk (kd i), ((i + 1 : Nat) : Int)] := by
      show mc va (cc, ((i + 1 : Nat) : Int), 0) ++ [] = _
      unfold mc
      rw [if_neg (by show ¬ cc = 11; omega), if_neg (by show ¬ cc = 1; omega), if_pos hcc, List.append_nil, z, ← em]
    have e2 : mos va (C.length : Int) [(cc, ((i + 1 : Nat) : Int), 0)] = [(C.length : Int) + 1] := by
      show mo (C.length : Int) (cc, ((i + 1 : Nat) : Int), 0) ++ [] = _
      unfold mo
      rw [if_neg (by show ¬ cc = 11; omega), if_pos hcc, List.append_nil]
    refine k3 h2 ?_ ?_
    · rw [e1, e2]
      rw [List.append_assoc C] at x2
      exact x2
    · rw [e1, e2]
      refine ⟨?_, ?_⟩
      · rw [List.length_append]
        show C.length + 2 + 2 * w ≤ 2 * (i + 1 + 1)
        omega
      · rw [List.length_append]
        show O.length + 1 + w ≤ i + 1 + 1
        omega
  · rw [if_neg y] at k3
    exact k3 (by omega) h2 f2 e2
/-- what a method does, told by a function, at a depth -/
def CM (m : Nat) (b : Nat) (dp : Int) (f : GF) (kd va : Nat → Int) : Prop := ∀ (D : Nat) (h0 h : AH) (q : Int) (N i : Nat) (C O R : List Int) (w : Nat) (K : AK), b ≤ D → XM h0 q kd va N h i dp C O R → WW C O i w → PM h0 q kd va N dp C O R w K (f i) → am_call D m [(2, 53)] h K
theorem CM.go {m b : Nat} {f : GF} (c : CM m b dp f kd va) (hD : b ≤ D) (x : XM h0 q kd va N h i dp C O R) (ww : WW C O i w) (k : PM h0 q kd va N dp C O R w K (f i)) : am_call D m [(2, 53)] h K := c D h0 h q N i C O R w K hD x ww k
theorem XM.gt {h5 : AH} {j : Nat} {C5 O5 t : List Int} {a dp5 : Int} (x : XM h0 q kd va N h i dp C O R) (x5 : XM h0 q kd va N h5 j dp5 C5 O5 ((R ++ [a]) ++ t)) : i < j := by
  have e := x5.rl
  rw [List.length_append, List.length_append, x.rl] at e
  have e2 : i + 1 + t.length = j := e
  omega
theorem c185_9 {f : GF} {b : Nat} (hb : 1 ≤ b) (ci : CM 187 b dp f kd va) : ∀ n : Nat, ∀ {i : Nat} {h : AH} {C O R : List Int} {y1 : AV} (j : Nat), b ≤ d → j + n = 400 → j ≤ i → XM h0 q kd va N h i dp C O R → WW C O i w → PM h0 q kd va N dp C O R w K (gLp kd f 42 14 47 15 n i) → WP (d + 1) 185 (9, [(2, 53), y1], [], h, 0, 0) K := by
  intro n
  induction n with
  | zero =>
    intro i h C O R y1 j hd hj ji x ww k
    have N4 := x.g.N4
    have iN := x.iN
    have en := x.g.en
    have e : i = N := by omega
    exact v185_9 ⟨x.t, c167 (by decide) x (isn (by rw [e]; omega) ⟨x.t, c167 (by decide) x (isn (by rw [e]; omega) ⟨Or.inr rfl, PM.ok x ww k⟩)⟩)⟩
  | succ n ih =>
    intro i h C O R y1 j hd hj ji x ww k
    have N4 := x.g.N4
    have iN := x.iN
    have k' : PM h0 q kd va N dp C O R w K (if kd i = 42 then bnd (tk kd 42 0 i) fun i => bnd (f i) fun i => bnd (em (14, 0, 0) i) (gLp kd f 42 14 47 15 n) else if kd i = 47 then bnd (tk kd 47 0 i) fun i => bnd (f i) fun i => bnd (em (15, 0, 0) i) (gLp kd f 42 14 47 15 n) else .inr (i, [], [])) := k
    have nx : ∀ (c : Int) (y : AV) (i2 : Nat) h2 C2 O2 R2, plain (c, 0, 0) → i < i2 → XM h0 q kd va N h2 i2 dp (C2 ++ [mco c]) O2 R2 → WW (C2 ++ [mco c]) O2 i2 w → PM h0 q kd va N dp C2 O2 R2 w K (bnd (em (c, 0, 0) i2) (gLp kd f 42 14 47 15 n)) → WP (d + 1) 185 (9, [(2, 53), y], [], h2, 0, 0) K := fun c y i2 h2 C2 O2 R2 hc hi x2 w2 k2 => ih (j + 1) hd (by omega) (by omega) x2 w2 (PM.es (o := (c, 0, 0)) hc k2)
    by_cases za : kd i = 42
    · rw [if_pos za] at k'
      exact v185_9 ⟨x.t, c167 (by decide) x (isy za ⟨x.t, c167 (by decide) x (isy za ⟨x.t, x.t, x.t, by
        rw [x.po, w32_nat (by omega)]
        exact ci.go (by omega) (x.nx (x.lt (by decide) za)) ww.up (PM.ch (k'.ty za) fun _ _ _ h5 x5 w5 k5 => ⟨x5.t, c171 (by have := w5.1; have := x5.iN; omega) x5 fun h6 x6 => okx (nx 14 _ _ h6 _ _ _ ⟨by decide, by decide, by decide⟩ (x.gt x5) x6 w5.put k5)⟩)⟩)⟩)⟩
    · rw [if_neg za] at k'
      by_cases zb : kd i = 47
      · rw [if_pos zb] at k'
        exact v185_9 ⟨x.t, c167 (by decide) x (isn za ⟨x.t, c167 (by decide) x (isy zb ⟨x.t, c167 (by decide) x (isn za ⟨x.t, x.t, x.t, by
        rw [x.po, w32_nat (by omega)]
        exact ci.go (by omega) (x.nx (x.lt (by decide) zb)) ww.up (PM.ch (k'.ty zb) fun _ _ _ h5 x5 w5 k5 => ⟨x5.t, c171 (by have := w5.1; have := x5.iN; omega) x5 fun h6 x6 => okx (nx 15 _ _ h6 _ _ _ ⟨by decide, by decide, by decide⟩ (x.gt x5) x6 w5.put k5)⟩)⟩)⟩)⟩)⟩
      · rw [if_neg zb] at k'
        exact v185_9 ⟨x.t, c167 (by decide) x (isn za ⟨x.t, c167 (by decide) x (isn zb ⟨Or.inr rfl, PM.ok x ww k'⟩)⟩)⟩
theorem c185 {f : GF} {b : Nat} (hb : 1 ≤ b) (ci : CM 187 b dp f kd va) : CM 185 (b + 1) dp (gList kd f 42 14 47 15) kd va := by
  intro D h0 h q N i C O R w K hD x ww k
  obtain ⟨d, rfl⟩ : ∃ d, D = d + 1 := ⟨D - 1, by omega⟩
  exact v185 ⟨x.t, ci.go (by omega) x ww (PM.ch k fun _ _ _ h2 x2 w2 k2 => c185_9 hb ci 400 0 (by omega) rfl (Nat.zero_le _) x2 w2 k2)⟩
theorem c184_9 {f : GF} {b : Nat} (hb : 1 ≤ b) (ci : CM 185 b dp f kd va) : ∀ n : Nat, ∀ {i : Nat} {h : AH} {C O R : List Int} {y1 : AV} (j : Nat), b ≤ d → j + n = 400 → j ≤ i → XM h0 q kd va N h i dp C O R → WW C O i w → PM h0 q kd va N dp C O R w K (gLp kd f 43 12 45 13 n i) → WP (d + 1) 184 (9, [(2, 53), y1], [], h, 0, 0) K := by
  intro n
  induction n with
  | zero =>
    intro i h C O R y1 j hd hj ji x ww k
    have N4 := x.g.N4
    have iN := x.iN
    have en := x.g.en
    have e : i = N := by omega
    exact v184_9 ⟨x.t, c167 (by decide) x (isn (by rw [e]; omega) ⟨x.t, c167 (by decide) x (isn (by rw [e]; omega) ⟨Or.inr rfl, PM.ok x ww k⟩)⟩)⟩
  | succ n ih =>
    intro i h C O R y1 j hd hj ji x ww k
    have N4 := x.g.N4
    have iN := x.iN
    have k' : PM h0 q kd va N dp C O R w K (if kd i = 43 then bnd (tk kd 43 0 i) fun i => bnd (f i) fun i => bnd (em (12, 0, 0) i) (gLp kd f 43 12 45 13 n) else if kd i = 45 then bnd (tk kd 45 0 i) fun i => bnd (f i) fun i => bnd (em (13, 0, 0) i) (gLp kd f 43 12 45 13 n) else .inr (i, [], [])) := k
    have nx : ∀ (c : Int) (y : AV) (i2 : Nat) h2 C2 O2 R2, plain (c, 0, 0) → i < i2 → XM h0 q kd va N h2 i2 dp (C2 ++ [mco c]) O2 R2 → WW (C2 ++ [mco c]) O2 i2 w → PM h0 q kd va N dp C2 O2 R2 w K (bnd (em (c, 0, 0) i2) (gLp kd f 43 12 45 13 n)) → WP (d + 1) 184 (9, [(2, 53), y], [], h2, 0, 0) K := fun c y i2 h2 C2 O2 R2 hc hi x2 w2 k2 => ih (j + 1) hd (by omega) (by omega) x2 w2 (PM.es (o := (c, 0, 0)) hc k2)
    by_cases za : kd i = 43
    · rw [if_pos za] at k'
      exact v184_9 ⟨x.t, c167 (by decide) x (isy za ⟨x.t, c167 (by decide) x (isy za ⟨x.t, x.t, x.t, by
        rw [x.po, w32_nat (by omega)]
        exact ci.go (by omega) (x.nx (x.lt (by decide) za)) ww.up (PM.ch (k'.ty za) fun _ _ _ h5 x5 w5 k5 => ⟨x5.t, c171 (by have := w5.1; have := x5.iN; omega) x5 fun h6 x6 => okx (nx 12 _ _ h6 _ _ _ ⟨by decide, by decide, by decide⟩ (x.gt x5) x6 w5.put k5)⟩)⟩)⟩)⟩
    · rw [if_neg za] at k'
      by_cases zb : kd i = 45
      · rw [if_pos zb] at k'
        exact v184_9 ⟨x.t, c167 (by decide) x (isn za ⟨x.t, c167 (by decide) x (isy zb ⟨x.t, c167 (by decide) x (isn za ⟨x.t, x.t, x.t, by
        rw [x.po, w32_nat (by omega)]
        exact ci.go (by omega) (x.nx (x.lt (by decide) zb)) ww.up (PM.ch (k'.ty zb) fun _ _ _ h5 x5 w5 k5 => ⟨x5.t, c171 (by have := w5.1; have := x5.iN; omega) x5 fun h6 x6 => okx (nx 13 _ _ h6 _ _ _ ⟨by decide, by decide, by decide⟩ (x.gt x5) x6 w5.put k5)⟩)⟩)⟩)⟩)⟩
      · rw [if_neg zb] at k'
        exact v184_9 ⟨x.t, c167 (by decide) x (isn za ⟨x.t, c167 (by decide) x (isn zb ⟨Or.inr rfl, PM.ok x ww k'⟩)⟩)⟩
theorem c184 {f : GF} {b : Nat} (hb : 1 ≤ b) (ci : CM 185 b dp f kd va) : CM 184 (b + 1) dp (gList kd f 43 12 45 13) kd va := by
  intro D h0 h q N i C O R w K hD x ww k
  obtain ⟨d, rfl⟩ : ∃ d, D = d + 1 := ⟨D - 1, by omega⟩
  exact v184 ⟨x.t, ci.go (by omega) x ww (PM.ch k fun _ _ _ h2 x2 w2 k2 => c184_9 hb ci 400 0 (by omega) rfl (Nat.zero_le _) x2 w2 k2)⟩
/-- what stands one depth deeper -/
def LM (kd va : Nat → Int) (b : Nat) (dp : Int) : Option (GF × GF) → Prop
  | none => dp = 8
  | some v => (0 ≤ dp ∧ dp < 8) ∧ CM 187 b (dp + 1) v.1 kd va ∧ CM 184 b (dp + 1) v.2 kd va
theorem LM.bd {b : Nat} : ∀ {lv : Option (GF × GF)}, LM kd va b dp lv → 0 ≤ dp ∧ dp ≤ 8
  | none, x => by
    have x' : dp = 8 := x
    omega
  | some v, x => by
    have x' := x.1
    omega
theorem bnd_pair {v : GF × GF} {o : Op} : bnd (gPair kd (some v) i) (em o) = bnd (tk kd 40 0 i) fun i => bnd (v.2 i) fun i => bnd (tk kd 44 0 i) fun i => bnd (v.2 i) fun i => bnd (tk kd 41 0 i) (em o) := by
  unfold gPair
  simp only [bnd_assoc]
theorem c186_2 {b : Nat} {lv : Option (GF × GF)} {a c : Int} (hb : 2 ≤ b) (hl : LM kd va b dp lv) (ha : a = mco c) (hc : plain (c, 0, 0)) (hD : b + 1 ≤ D) (x : XM h0 q kd va N h i dp C O R) (ww : WW C O i w) (k : PM h0 q kd va N dp C O R w K (bnd (gPair kd lv i) (em (c, 0, 0)))) : am_call D 186 [(2, 53), (0, a), (0, 1)] h K := by
  obtain ⟨d, rfl⟩ : ∃ d, D = d + 1 := ⟨D - 1, by omega⟩
  have bd := hl.bd
  have N4 := x.g.N4
  cases lv with
  | none =>
    have e : dp = 8 := hl
    have er : K 0 0 h := k x.iN h x.f x.po
    by_cases z : kd i = 40
    · exact v186 ⟨x.t, c167 (by decide) x (isy z ⟨x.t, c180 (x.lt (by decide) z) bd x (fun _ => okx ⟨fun _ => ⟨Or.inl rfl, er⟩, fun y => absurd rfl y⟩) (fun y => absurd e y)⟩)⟩
    · exact v186 ⟨x.t, c167 (by decide) x (isn z ⟨Or.inl rfl, er⟩)⟩
  | some v =>
    rw [bnd_pair] at k
    obtain ⟨hl1, hl2, hl3⟩ := hl
    by_cases z : kd i = 40
    · refine v186 ⟨x.t, c167 (by decide) x (isy z ⟨x.t, c180 (x.lt (by decide) z) bd x (fun y => absurd y (by omega)) (fun _ h2 x2 => okx ⟨fun y => absurd y (by decide), fun _ => ⟨x2.t, ?_⟩⟩)⟩)⟩
      refine hl3.go (by omega) x2 ww.up (PM.ch (k.ty z) fun j s t h3 x3 w3 k3 => ⟨fun y => absurd y (by decide), fun _ => ⟨x3.t, ?_⟩⟩)
      refine c169 (by decide) (by omega) x3 (fun z4 h4 x4 => okx ⟨fun y => absurd y (by decide), fun _ => ⟨x4.t, ?_⟩⟩) (fun z4 => okx ⟨fun _ => ⟨Or.inl rfl, k3.tn z4 x3.iN h3 x3.f x3.po⟩, fun y => absurd rfl y⟩)
      refine hl3.go (by omega) x4 w3.up (PM.ch (k3.ty z4) fun j s t h5 x5 w5 k5 => ⟨x5.t, x5.t, fun y => absurd y (by decide), fun _ => ?_⟩)
      rw [x5.dep, w32_id (x := dp + 1 - 1) (by omega) (by omega), show dp + 1 - 1 = dp by omega]
      refine ⟨x5.t, c171 (by have := w5.1; have := x5.iN; omega) (x5.dw dp) fun h6 x6 => okx ⟨x6.t, ?_⟩⟩
      refine c169 (by decide) (by omega) x6 (fun z7 h7 x7 => okx ⟨Or.inr rfl, ?_⟩) (fun z7 => okx ⟨Or.inl rfl, k5.tn z7 x6.iN h6 x6.f x6.po⟩)
      rw [ha] at x7
      refine PM.eo (o := (c, 0, 0)) hc (k5.ty z7) h7 x7 ⟨?_, ?_⟩
      · have := w5.1
        rw [List.length_append]
        show _ + 1 + 2 * w ≤ _
        omega
      · have := w5.2
        omega
    · exact v186 ⟨x.t, c167 (by decide) x (isn z ⟨Or.inl rfl, k.tn z x.iN h x.f x.po⟩)⟩
theorem c186_1 {b : Nat} {lv : Option (GF × GF)} {a : Int} (hb : 2 ≤ b) (hl : LM kd va b dp lv) (hD : b + 1 ≤ D) (x : XM h0 q kd va N h i dp C O R) (ww : WW C O i w) (kN : kd i ≠ 40 → K 0 0 h) (kY : kd i = 40 → PM h0 q kd va N dp C O R w K (gPar kd lv i)) : am_call D 186 [(2, 53), (0, a), (0, 0)] h K := by
  obtain ⟨d, rfl⟩ : ∃ d, D = d + 1 := ⟨D - 1, by omega⟩
  have bd := hl.bd
  have N4 := x.g.N4
  by_cases z : kd i = 40
  · have k := kY z
    cases lv with
    | none =>
      have e : dp = 8 := hl
      have er : K 0 0 h := k x.iN h x.f x.po
      exact v186 ⟨x.t, c167 (by decide) x (isy z ⟨x.t, c180 (x.lt (by decide) z) bd x (fun _ => okx ⟨fun _ => ⟨Or.inl rfl, er⟩, fun y => absurd rfl y⟩) (fun y => absurd e y)⟩)⟩
    | some v =>
      have k1 : PM h0 q kd va N dp C O R w K (bnd (tk kd 40 0 i) fun i => bnd (v.2 i) (tk kd 41 0)) := k
      obtain ⟨hl1, hl2, hl3⟩ := hl
      refine v186 ⟨x.t, c167 (by decide) x (isy z ⟨x.t, c180 (x.lt (by decide) z) bd x (fun y => absurd y (by omega)) (fun _ h2 x2 => okx ⟨fun y => absurd y (by decide), fun _ => ⟨x2.t, ?_⟩⟩)⟩)⟩
      refine hl3.go (by omega) x2 ww.up (PM.ch (k1.ty z) fun j s t h3 x3 w3 k3 => ⟨fun _ => ⟨x3.t, x3.t, fun _ => ?_, fun y => absurd rfl y⟩, fun y => absurd rfl y⟩)
      rw [x3.dep, w32_id (x := dp + 1 - 1) (by omega) (by omega), show dp + 1 - 1 = dp by omega]
      refine ⟨x3.t, c169 (by decide) (by omega) (x3.dw dp) (fun z7 h7 x7 => okx ⟨Or.inr rfl, PM.ok x7 (w3.up.le (by omega)) (k3.fy z7)⟩) (fun z7 => okx ⟨Or.inl rfl, k3.fn z7 x3.iN _ (x3.dw dp).f (x3.dw dp).po⟩)⟩
  · exact v186 ⟨x.t, c167 (by decide) x (isn z ⟨Or.inl rfl, kN z⟩)⟩
theorem c187 {b : Nat} {lv : Option (GF × GF)} (hb : 3 ≤ b) (hl : LM kd va b dp lv) : CM 187 (b + 2) dp (gVal kd lv) kd va := by
  intro D h0 h q N i C O R w K hD x ww k
  obtain ⟨d, rfl⟩ : ∃ d, D = d + 1 := ⟨D - 1, by omega⟩
  have bd := hl.bd
  have N4 := x.g.N4
  have iN := x.iN
  have w1 := ww.1
  have w2 := ww.2
  refine v187 ?_
  rw [x.f5, x.po, x.ki, x.t5, x.l5]
  refine ⟨x.t, x.t, ⟨rfl, by omega, by omega⟩, x.t, ?_⟩
  by_cases z1 : kd i = 257
  · rw [gVal_257 z1] at k
    have hi := x.lt (by decide) z1
    refine c166 257 (kvk (by decide)) rfl x (isy z1 ⟨x.t, c171 (by omega) x fun h2 x2 => okx ⟨x2.t, x2.t, ?_⟩⟩)
    rw [x2.po]
    refine x.g.nv _ h2 i _ x2.f.q iN z1 (okx ⟨x2.t, c171 (by rw [List.length_append]; show C.length + 1 < 800; omega) x2 fun h3 x3 => okx ⟨x3.t, x3.t, Or.inr rfl, ?_⟩⟩)
    rw [x3.po, w32_nat (by omega)]
    have x4 := x3.nxr (ro := 14) rfl hi
    refine k _ ?_ ?_
    · show XM h0 q kd va N _ (i + 1) dp (C ++ [32, va i]) (O ++ []) (R ++ [14])
      rw [List.append_nil]
      rw [List.append_assoc C] at x4
      exact x4
    · show WW (C ++ [32, va i]) (O ++ []) (i + 1) w
      rw [List.append_nil]
      refine ⟨?_, by omega⟩
      rw [List.length_append]
      show C.length + 2 + 2 * w ≤ 2 * (i + 1)
      omega
  refine c166 257 (kvk (by decide)) rfl x (isn z1 ⟨x.t, ?_⟩)
  by_cases z2 : kd i = 311
  · rw [gVal_311 z2] at k
    have hi := x.lt (by decide) z2
    refine c166 311 (kvk (by decide)) rfl x (isy z2 ⟨x.t, c171 (by omega) x fun h2 x2 => okx ⟨x2.t, x2.t, Or.inr rfl, ?_⟩⟩)
    rw [x2.po, w32_nat (by omega)]
    have x3 := x2.nx hi
    rw [z2] at x3
    exact PM.eo (o := (2, 0, 0)) ⟨by decide, by decide, by decide⟩ (k.ty z2) _ x3 ww.up.put
  refine c166 311 (kvk (by decide)) rfl x (isn z2 ⟨x.t, ?_⟩)
  by_cases z3 : kd i = 312
  · rw [gVal_312 z3] at k
    have hi := x.lt (by decide) z3
    refine c166 312 (kvk (by decide)) rfl x (isy z3 ⟨x.t, c171 (by omega) x fun h2 x2 => okx ⟨x2.t, x2.t, Or.inr rfl, ?_⟩⟩)
    rw [x2.po, w32_nat (by omega)]
    have x3 := x2.nx hi
    rw [z3] at x3
    exact PM.eo (o := (3, 0, 0)) ⟨by decide, by decide, by decide⟩ (k.ty z3) _ x3 ww.up.put
  refine c166 312 (kvk (by decide)) rfl x (isn z3 ⟨x.t, ?_⟩)
  by_cases z4 : kd i = 303
  · rw [gVal_303 z4] at k
    exact c166 303 (kvk (by decide)) rfl x (isy z4 ⟨x.t, c182 12 4 rfl (by decide) z4 (by decide) rfl (by omega) x ww (k.bv (Nat.le_refl _))⟩)
  refine c166 303 (kvk (by decide)) rfl x (isn z4 ⟨x.t, ?_⟩)
  by_cases z5 : kd i = 314
  · rw [gVal_314 z5] at k
    exact c166 314 (kvk (by decide)) rfl x (isy z5 ⟨x.t, c182 12 5 rfl (by decide) z5 (by decide) rfl (by omega) x ww (k.bv (Nat.le_refl _))⟩)
  refine c166 314 (kvk (by decide)) rfl x (isn z5 ⟨x.t, ?_⟩)
  by_cases z6 : kd i = 313
  · rw [gVal_313 z6] at k
    exact c166 313 (kvk (by decide)) rfl x (isy z6 ⟨x.t, c182 13 6 rfl (by decide) z6 (by decide) rfl (by omega) x ww (k.bv (Nat.le_refl _))⟩)
  refine c166 313 (kvk (by decide)) rfl x (isn z6 ⟨x.t, ?_⟩)
  by_cases z7 : kd i = 316
  · rw [gVal_316 z7] at k
    exact c166 316 (kvk (by decide)) rfl x (isy z7 ⟨x.t, c182 13 7 rfl (by decide) z7 (by decide) rfl (by omega) x ww (k.bv (Nat.le_refl _))⟩)
  refine c166 316 (kvk (by decide)) rfl x (isn z7 ⟨x.t, ?_⟩)
  by_cases z8 : kd i = 45
  · rw [gVal_45 z8] at k
    have hi := x.lt (by decide) z8
    refine c167 (by decide) x (isy z8 ⟨x.t, ?_⟩)
    cases lv with
    | none =>
      have e : dp = 8 := hl
      exact c180 hi bd x (fun _ => okx ⟨fun _ => ⟨Or.inl rfl, k x.iN h x.f x.po⟩, fun y => absurd rfl y⟩) (fun y => absurd e y)
    | some v =>
      have k1 : PM h0 q kd va N dp C O R w K (bnd (tk kd 45 0 i) fun i => bnd (v.1 i) (em (9, 0, 0))) := k
      obtain ⟨hl1, hl2, hl3⟩ := hl
      refine c180 hi bd x (fun y => absurd y (by omega)) (fun _ h2 x2 => okx ⟨fun y => absurd y (by decide), fun _ => ⟨x2.t, ?_⟩⟩)
      refine hl2.go (by omega) x2 ww.up (PM.ch (k1.ty z8) fun j s t h3 x3 w3 k3 => ⟨x3.t, x3.t, ?_⟩)
      rw [x3.dep, w32_id (x := dp + 1 - 1) (by omega) (by omega), show dp + 1 - 1 = dp by omega]
      exact ⟨x3.t, c171 (by have := w3.1; have := x3.iN; omega) (x3.dw dp) fun h6 x6 => okx ⟨Or.inr rfl, PM.eo (o := (9, 0, 0)) ⟨by decide, by decide, by decide⟩ k3 h6 x6 w3.put⟩⟩
  refine c167 (by decide) x (isn z8 ⟨x.t, ?_⟩)
  refine c168 320 (kvk (by decide)) (by decide) rfl (by omega) x (fun z9 h2 x2 => okx ⟨fun y => absurd y (by decide), fun _ => ⟨x2.t, ?_⟩⟩) (fun z9 => okx ⟨fun _ => ⟨x.t, ?_⟩, fun y => absurd rfl y⟩)
  · rw [gVal_320 z9] at k
    rw [z9]
    exact c186_2 (c := 16) (by omega) hl rfl ⟨by decide, by decide, by decide⟩ (by omega) x2 (ww.up.le (Nat.le_succ _)) ((k.ty z9).bv (Nat.le_refl _))
  refine c168 321 (kvk (by decide)) (by decide) rfl (by omega) x (fun z10 h2 x2 => okx ⟨fun y => absurd y (by decide), fun _ => ⟨x2.t, ?_⟩⟩) (fun z10 => okx ⟨fun _ => ⟨x.t, ?_⟩, fun y => absurd rfl y⟩)
  · rw [gVal_321 z10] at k
    rw [z10]
    exact c186_2 (c := 17) (by omega) hl rfl ⟨by decide, by decide, by decide⟩ (by omega) x2 (ww.up.le (Nat.le_succ _)) ((k.ty z10).bv (Nat.le_refl _))
  refine c186_1 (by omega) hl (by omega) x ww (fun z11 => okx ⟨Or.inl rfl, ?_⟩) (fun z11 => ?_)
  · rw [gVal_no z11 z8 z1 z4 z2 z3 z6 z5 z7 z9 z10] at k
    exact k x.iN h x.f x.po
  · rw [gVal_40 z11] at k
    exact k.bv (Nat.le_refl _)
theorem m_lv : ∀ n : Nat, n ≤ 8 → LM kd va (5 * n + 3) (8 - (n : Int)) (gLv kd n)
  | 0, _ => by
    show (8 : Int) - ((0 : Nat) : Int) = 8
    omega
  | n + 1, hn => by
    have ih := m_lv n (by omega)
    have c1 := c187 (by omega) ih
    have c2 := c184 (by omega) (c185 (by omega) c1)
    have e : 8 - ((n + 1 : Nat) : Int) + 1 = 8 - (n : Int) := by omega
    refine ⟨by omega, ?_, ?_⟩
    · rw [e]
      intro D h0 h q N i C O R w K hD
      exact c1 D h0 h q N i C O R w K (by omega)
    · rw [e]
      intro D h0 h q N i C O R w K hD
      exact c2 D h0 h q N i C O R w K (by omega)
/-- a sum -/
theorem m_su {n : Nat} (hn : n ≤ 8) : CM 184 (5 * n + 7) (8 - (n : Int)) (gS kd n) kd va := c184 (by omega) (c185 (by omega) (c187 (by omega) (m_lv n hn)))
end
