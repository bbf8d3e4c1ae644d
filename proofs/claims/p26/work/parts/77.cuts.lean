/-! ===== cutting: a symbol ===== -/
/-- kind, and the place behind -/
def s_sm (tp : Int → Int) (ln j : Int) : Int × Int :=
  if s_if 1 (am_i2b (tp j)) 13 0 < 0 then (261, j)
  else if (tp j = 60 ∨ tp j = 62) ∧ s_ch tp ln (j + 1) = 61 then (if tp j = 60 then 258 else 259, j + 2)
  else (tp j, j + 1)
section
variable {d : Nat} {h : AH} {ln po i k : Int} {tp : Int → Int} {K : AK}
theorem c96 (x : TK h ln po tp) (hp : po < ln) (kk : ∀ h2, FT h h2 k → TK h2 ln (s_sm tp ln po).2 tp → am_m h2 24 k = am_m h 24 k → K 0 (s_sm tp ln po).1 h2) : am_call (d + 4) 96 [(2, 22)] h K := by
  have pb := x.pb
  have lb := x.lb
  have tr := x.tr po (by omega) hp
  have ec : s_ch tp ln po = tp po := if_pos ⟨by omega, by omega⟩
  have e2c : am_i2c (tp po) = tp po := by
    unfold am_i2c
    omega
  unfold s_sm at kk
  refine v96 ?_
  simp only [x.t, x.f6, true_and]
  refine c97 x ?_
  rw [ec]
  show am_call _ _ _ _ _
  rw [e2c]
  refine c3 (by rw [tn1]; decide) tr ?_
  rw [tn1, show (13 : Int).toNat = 13 from rfl]
  show _ ∧ _
  simp only [x.t, x.f6, true_and]
  rw [w32_id (x := po + 1) (by omega) (by omega)]
  have x1 : TK (am_w h 22 6 (po + 1)) ln (po + 1) tp := x.at ⟨by omega, by omega⟩
  simp only [x1.t, x1.f6, true_and]
  refine ⟨fun z => ?_, fun z => ?_⟩
  · rw [if_pos z] at kk
    exact kk h FT.rf x rfl
  · rw [if_neg z] at kk
    have two : (tp po = 60 ∨ tp po = 62) → am_call (d + 3) 97 [(2, 22), (0, po + 1)] (am_w h 22 6 (po + 1)) (fun x7 v8 h9 => am_okx x7 (((v8 = 61) → (am_t h9 22 = 5) ∧ (am_t h9 22 = 5) ∧ ((tp po = 60) → K 0 258 (am_w h9 22 6 (w32 ((am_m h9 22 6) + 1)))) ∧ (¬ (tp po = 60) → K 0 259 (am_w h9 22 6 (w32 ((am_m h9 22 6) + 1))))) ∧ (¬ (v8 = 61) → K 0 (tp po) h9))) := fun z2 => by
      refine c97 x1 ?_
      show _ ∧ _
      simp only [x1.t, x1.f6, true_and]
      refine ⟨fun z3 => ?_, fun z3 => ?_⟩
      · have hlt : po + 1 < ln := by
          by_cases y : po + 1 < ln
          · exact y
          · have : s_ch tp ln (po + 1) = 0 := if_neg (fun w => y w.2)
            omega
        rw [if_pos ⟨z2, z3⟩] at kk
        rw [w32_id (x := po + 1 + 1) (by omega) (by omega), show po + 1 + 1 = po + 2 by omega]
        have k1 := kk _ ((FT.rf (k := k)).at (v := po + 1)).at (x1.at (v := po + 2) ⟨by omega, by omega⟩) (by rw [am_m_w, if_neg (by omega), am_m_w, if_neg (by omega)])
        refine ⟨fun z4 => ?_, fun z4 => ?_⟩
        · rw [if_pos z4] at k1
          exact k1
        · rw [if_neg z4] at k1
          exact k1
      · rw [if_neg (fun y => z3 y.2)] at kk
        exact kk _ FT.rf.at x1 (by rw [am_m_w, if_neg (by omega)])
    refine ⟨fun z2 => two (Or.inl z2), fun z2 => ⟨fun z3 => two (Or.inr z3), fun z3 => ?_⟩⟩
    rw [if_neg (fun y => y.1.elim z2 z3)] at kk
    exact kk _ FT.rf.at x1 (by rw [am_m_w, if_neg (by omega)])
/-- one token: kind, place behind, value (none stays what it was) -/
def s_one (tp : Int → Int) (ln j : Int) : Int × Int × Option Int :=
  if s_le (tp j) = true then (if 10 < (s_wd tp ln j 0).1 - j then (261, (s_wd tp ln j 0).1, none) else (s_ky (s_wd tp ln j 0).2 22 0, (s_wd tp ln j 0).1, some (s_wd tp ln j 0).2))
  else if s_di (tp j) = true then (if 6 < (s_nu tp ln j 0).1 - j then 261 else 257, (s_nu tp ln j 0).1, some (s_nu tp ln j 0).2)
  else ((s_sm tp ln j).1, (s_sm tp ln j).2, none)
theorem c93 (x : TK h ln po tp) (hp : po < ln) (k0 : 0 ≤ k ∧ k < 401) (kk : ∀ h2, FT h h2 k → TK h2 ln (s_one tp ln po).2.1 tp → am_m h2 24 k = (s_one tp ln po).2.2.getD (am_m h 24 k) → K 0 (s_one tp ln po).1 h2) : am_call (d + 5) 93 [(2, 22), (0, k)] h K := by
  have pb := x.pb
  have ec : s_ch tp ln po = tp po := if_pos ⟨by omega, by omega⟩
  unfold s_one at kk
  refine v93 ?_
  simp only [x.t, x.f6, true_and]
  refine c97 x ?_
  rw [ec]
  refine c98 ?_
  show _ ∧ _
  refine ⟨fun z => ?_, fun z => ?_⟩
  · have zl : ¬ s_le (tp po) = true := fun y => if1 z (of_decide_eq_true y)
    rw [if_neg zl] at kk
    simp only [x.t, x.f6, true_and]
    refine c97 x ?_
    rw [ec]
    refine c99 ?_
    show _ ∧ _
    refine ⟨fun z2 => ⟨x.t, ?_⟩, fun z2 => ⟨x.t, ?_⟩⟩
    · have zd : ¬ s_di (tp po) = true := fun y => if1 z2 (of_decide_eq_true y)
      rw [if_neg zd] at kk
      exact c96 (k := k) x hp kk
    · have zd : s_di (tp po) = true := decide_eq_true (if0 z2)
      rw [if_pos zd] at kk
      exact c95 x k0 kk
  · have zl : s_le (tp po) = true := decide_eq_true (if0 z)
    rw [if_pos zl] at kk
    refine ⟨x.t, c94 x k0 (fun z3 => ?_) (fun z3 => ?_)⟩
    · rw [if_pos z3] at kk
      exact kk
    · rw [if_neg z3] at kk
      exact kk
end
