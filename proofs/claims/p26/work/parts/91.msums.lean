/-! ===== the reference's grammar: names, values, products, sums ===== -/
theorem isn {P A B : Prop} [Decidable P] (hn : ¬ P) (a : A) : am_okx 0 (((if P then (1 : Int) else 0) = 0 → A) ∧ (¬ (if P then (1 : Int) else 0) = 0 → B)) := by
  rw [if_neg hn]
  exact ⟨fun _ => a, fun y => absurd rfl y⟩
theorem isy {P A B : Prop} [Decidable P] (hp : P) (b : B) : am_okx 0 (((if P then (1 : Int) else 0) = 0 → A) ∧ (¬ (if P then (1 : Int) else 0) = 0 → B)) := by
  rw [if_pos hp]
  exact ⟨fun y => absurd y (by decide), fun _ => b⟩
theorem kvk {c : Int} (h : 256 ≤ c ∧ c ≤ 257 ∨ 300 ≤ c ∧ c ≤ 321) : KV c := by
  unfold KV
  omega
theorem WW.up {C O : List Int} {i w : Nat} (x : WW C O i w) : WW C O (i + 1) (w + 1) := ⟨by have := x.1; omega, by have := x.2; omega⟩
theorem WW.le {C O : List Int} {i w w2 : Nat} (x : WW C O i w) (h : w2 ≤ w) : WW C O i w2 := ⟨by have := x.1; omega, by have := x.2; omega⟩
theorem WW.put {C O : List Int} {i w : Nat} {v : Int} (x : WW C O i (w + 1)) : WW (C ++ [v]) O i w := ⟨by
  have := x.1
  rw [List.length_append]
  show C.length + 1 + 2 * w ≤ 2 * i
  omega, by have := x.2; omega⟩
section
variable {kd : Nat → Int} {lv : Option (GF × GF)} {i : Nat}
theorem gVal_40 (z : kd i = 40) : gVal kd lv i = (gPar kd lv i) := by
  unfold gVal
  rw [if_pos z]
theorem gVal_45 (z : kd i = 45) : gVal kd lv i = (gNeg kd lv i) := by
  unfold gVal
  rw [if_neg (by omega), if_pos z]
theorem gVal_257 (z : kd i = 257) : gVal kd lv i = (gNum i) := by
  unfold gVal
  rw [if_neg (by omega), if_neg (by omega), if_pos z]
theorem gVal_303 (z : kd i = 303) : gVal kd lv i = (bnd (tk kd 303 0 i) (nm kd 12 4)) := by
  unfold gVal
  rw [if_neg (by omega), if_neg (by omega), if_neg (by omega), if_pos z]
theorem gVal_311 (z : kd i = 311) : gVal kd lv i = (bnd (tk kd 311 0 i) (em (2, 0, 0))) := by
  unfold gVal
  rw [if_neg (by omega), if_neg (by omega), if_neg (by omega), if_neg (by omega), if_pos z]
theorem gVal_312 (z : kd i = 312) : gVal kd lv i = (bnd (tk kd 312 0 i) (em (3, 0, 0))) := by
  unfold gVal
  rw [if_neg (by omega), if_neg (by omega), if_neg (by omega), if_neg (by omega), if_neg (by omega), if_pos z]
theorem gVal_313 (z : kd i = 313) : gVal kd lv i = (bnd (tk kd 313 0 i) (nm kd 13 6)) := by
  unfold gVal
  rw [if_neg (by omega), if_neg (by omega), if_neg (by omega), if_neg (by omega), if_neg (by omega), if_neg (by omega), if_pos z]
theorem gVal_314 (z : kd i = 314) : gVal kd lv i = (bnd (tk kd 314 0 i) (nm kd 12 5)) := by
  unfold gVal
  rw [if_neg (by omega), if_neg (by omega), if_neg (by omega), if_neg (by omega), if_neg (by omega), if_neg (by omega), if_neg (by omega), if_pos z]
theorem gVal_316 (z : kd i = 316) : gVal kd lv i = (bnd (tk kd 316 0 i) (nm kd 13 7)) := by
  unfold gVal
  rw [if_neg (by omega), if_neg (by omega), if_neg (by omega), if_neg (by omega), if_neg (by omega), if_neg (by omega), if_neg (by omega), if_neg (by omega), if_pos z]
theorem gVal_320 (z : kd i = 320) : gVal kd lv i = (bnd (tk kd 320 0 i) fun i => bnd (gPair kd lv i) (em (16, 0, 0))) := by
  unfold gVal
  rw [if_neg (by omega), if_neg (by omega), if_neg (by omega), if_neg (by omega), if_neg (by omega), if_neg (by omega), if_neg (by omega), if_neg (by omega), if_neg (by omega), if_pos z]
theorem gVal_321 (z : kd i = 321) : gVal kd lv i = (bnd (tk kd 321 0 i) fun i => bnd (gPair kd lv i) (em (17, 0, 0))) := by
  unfold gVal
  rw [if_neg (by omega), if_neg (by omega), if_neg (by omega), if_neg (by omega), if_neg (by omega), if_neg (by omega), if_neg (by omega), if_neg (by omega), if_neg (by omega), if_neg (by omega), if_pos z]
theorem gVal_no (z40 : kd i ≠ 40) (z45 : kd i ≠ 45) (z257 : kd i ≠ 257) (z303 : kd i ≠ 303) (z311 : kd i ≠ 311) (z312 : kd i ≠ 312) (z313 : kd i ≠ 313) (z314 : kd i ≠ 314) (z316 : kd i ≠ 316) (z320 : kd i ≠ 320) (z321 : kd i ≠ 321) : gVal kd lv i = .inl i := by
  unfold gVal
  rw [if_neg z40, if_neg z45, if_neg z257, if_neg z303, if_neg z311, if_neg z312, if_neg z313, if_neg z314, if_neg z316, if_neg z320, if_neg z321]
end
section
variable {d D n : Nat} {h0 h : AH} {q dp : Int} {kd va : Nat → Int} {N i : Nat} {C O R : List Int} {w : Nat} {K : AK}
/-- what a method does, told by a function, at a depth -/
def CM (m : Nat) (b : Nat) (dp : Int) (f : GF) (kd va : Nat → Int) : Prop := ∀ (D : Nat) (h0 h : AH) (q : Int) (N i : Nat) (C O R : List Int) (w : Nat) (K : AK), b ≤ D → XM h0 q kd va N h i dp C O R → WW C O i w → PM h0 q kd va N dp C O R w K (f i) → am_call D m [(2, 53)] h K
theorem CM.go {m b : Nat} {f : GF} (c : CM m b dp f kd va) (hD : b ≤ D) (x : XM h0 q kd va N h i dp C O R) (ww : WW C O i w) (k : PM h0 q kd va N dp C O R w K (f i)) : am_call D m [(2, 53)] h K := c D h0 h q N i C O R w K hD x ww k
theorem XM.gt {h5 : AH} {j : Nat} {C5 O5 t : List Int} {a dp5 : Int} (x : XM h0 q kd va N h i dp C O R) (x5 : XM h0 q kd va N h5 j dp5 C5 O5 ((R ++ [a]) ++ t)) : i < j := by
  have e := x5.rl
  rw [List.length_append, List.length_append, x.rl] at e
  have e2 : i + 1 + t.length = j := e
  omega
/-- what stands one depth deeper -/
def LM (kd va : Nat → Int) (b : Nat) (dp : Int) : Option (GF × GF) → Prop
  | none => dp = 8
  | some v => (0 ≤ dp ∧ dp < 8) ∧ CM 187 b (dp + 1) v.1 kd va ∧ CM 184 b (dp + 1) v.2 kd va
theorem LM.bd {b : Nat} : ∀ {lv : Option (GF × GF)}, LM kd va b dp lv → 0 ≤ dp ∧ dp ≤ 8
  | none, x => by
    have x' : dp = 8 := x
    omega
  | some v, x => by
    have x' := x.1
    omega
theorem bnd_pair {v : GF × GF} {o : Op} : bnd (gPair kd (some v) i) (em o) = bnd (tk kd 40 0 i) fun i => bnd (v.2 i) fun i => bnd (tk kd 44 0 i) fun i => bnd (v.2 i) fun i => bnd (tk kd 41 0 i) (em o) := by
  unfold gPair
  simp only [bnd_assoc]
end
