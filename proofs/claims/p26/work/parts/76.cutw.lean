/-! ===== cutting: words ===== -/
def s_wf (tp : Int → Int) (ln : Int) : Nat → Int → Int → Int × Int
  | 0, j, v => (j, v)
  | n + 1, j, v => if j < ln ∧ (s_le (tp j) = true ∨ s_di (tp j) = true) then s_wf tp ln n (j + 1) (w64 (w64 (v * 37) + s_dg37 (tp j))) else (j, v)
def s_wd (tp : Int → Int) (ln j v : Int) : Int × Int := s_wf tp ln (ln - j).toNat j v
def s_ky (x : Int) : Nat → Int → Int
  | 0, _ => 256
  | n + 1, j => if am_lcmp (s_kw j) x = 0 then 300 + j else s_ky x n (j + 1)
section
variable {d : Nat} {h : AH} {ln po i k : Int} {tp : Int → Int} {K : AK}
theorem s_wd_eq {j v : Int} : s_wd tp ln j v = if j < ln ∧ (s_le (tp j) = true ∨ s_di (tp j) = true) then s_wd tp ln (j + 1) (w64 (w64 (v * 37) + s_dg37 (tp j))) else (j, v) := by
  unfold s_wd
  by_cases z : j < ln
  · have e : (ln - j).toNat = (ln - (j + 1)).toNat + 1 := by omega
    rw [e]
    rfl
  · rw [if_neg (fun y => z y.1), show (ln - j).toNat = 0 by omega]
    rfl
theorem c94_106 {y1 y4 : AV} {v : Int} (x : TK h ln po tp) (kk : K 0 (s_ky v 22 0) h) : WP (d + 1) 94 (106, [(2, 22), y1, (1, v), (8, 0), y4, (0, 0)], [], h, 0, 0) K := by
  suffices H : ∀ n : Nat, ∀ i : Nat, i + n = 22 → s_ky v n (i : Int) = s_ky v 22 0 → WP (d + 1) 94 (106, [(2, 22), y1, (1, v), (8, 0), y4, (0, (i : Int))], [], h, 0, 0) K from H 22 0 rfl rfl
  intro n
  induction n with
  | zero =>
    intro i hi es
    refine v94_106 ⟨fun z => absurd z (by omega), fun _ => ?_⟩
    rw [← es] at kk
    exact kk
  | succ n ih =>
    intro i hi es
    have eu : s_ky v (n + 1) (i : Int) = if am_lcmp (s_kw (i : Int)) v = 0 then 300 + (i : Int) else s_ky v n ((i : Int) + 1) := rfl
    rw [eu] at es
    have e1 := x.kw (i : Int) (by omega) (by omega)
    refine v94_106 ⟨fun _ => ?_, fun z => absurd (show (i : Int) < 22 by omega) z⟩
    simp only [x.t, x.f3, x.t3, x.l3, e1, true_and]
    rw [w32_nat (by omega), w32_id (x := 300 + (i : Int)) (by omega) (by omega)]
    refine ⟨⟨by omega, by omega⟩, fun z => ?_, fun z => ?_⟩
    · rw [if_pos z] at es
      rw [← es] at kk
      exact kk
    · rw [if_neg z] at es
      exact ih (i + 1) (by omega) es
theorem c94 (x : TK h ln po tp) (k0 : 0 ≤ k ∧ k < 401) (kB : 10 < (s_wd tp ln po 0).1 - po → ∀ h2, FT h h2 k → TK h2 ln (s_wd tp ln po 0).1 tp → am_m h2 24 k = am_m h 24 k → K 0 261 h2) (kW : ¬ 10 < (s_wd tp ln po 0).1 - po → ∀ h2, FT h h2 k → TK h2 ln (s_wd tp ln po 0).1 tp → am_m h2 24 k = (s_wd tp ln po 0).2 → K 0 (s_ky (s_wd tp ln po 0).2 22 0) h2) : am_call (d + 2) 94 [(2, 22), (0, k)] h K := by
  have pb0 := x.pb
  have lb := x.lb
  refine v94 ?_
  simp only [x.t, x.f6, true_and]
  suffices H : ∀ n : Nat, ∀ h1 p1 v, (ln - p1).toNat = n → po ≤ p1 → FT h h1 k → am_m h1 24 k = am_m h 24 k → TK h1 ln p1 tp → s_wd tp ln p1 v = s_wd tp ln po 0 → ∀ y5, WP (d + 2) 94 (8, [(2, 22), (0, k), (1, v), (8, 0), (0, po), y5], [], h1, 0, 0) K from H _ h po 0 rfl (Int.le_refl _) FT.rf rfl x rfl _
  have fin : ∀ h1 p1 v, po ≤ p1 → FT h h1 k → am_m h1 24 k = am_m h 24 k → TK h1 ln p1 tp → (p1, v) = s_wd tp ln po 0 → (10 < p1 - po → K 0 261 h1) ∧ (¬ 10 < p1 - po → WP (d + 2) 94 (106, [(2, 22), (0, k), (1, v), (8, 0), (0, po), (0, 0)], [], am_w h1 24 k v, 0, 0) K) := fun h1 p1 v hp f ev x es => by
    rw [← es] at kB kW
    refine ⟨fun z => kB z h1 f x ev, fun z => c94_106 x.va (kW z _ f.va x.va (by rw [am_m_w, if_pos ⟨rfl, rfl⟩]))⟩
  intro n
  induction n with
  | zero =>
    intro h1 p1 v hn hp f ev x es y5
    have pb := x.pb
    rw [s_wd_eq, if_neg (fun y => by omega)] at es
    refine v94_8 ?_
    simp only [x.t, x.f5, x.f6, x.f1, x.t1, x.l1, true_and]
    rw [w32_id (x := p1 - po) (by omega) (by omega)]
    have fn := fin h1 p1 v hp f ev x es
    exact ⟨fun z => absurd z (by omega), fun _ => ⟨fn.1, fun z => ⟨k0, fn.2 z⟩⟩⟩
  | succ n ih =>
    intro h1 p1 v hn hp f ev x es y5
    have pb := x.pb
    have ec : s_ch tp ln p1 = tp p1 := if_pos ⟨by omega, by omega⟩
    have tr := x.tr p1 (by omega) (by omega)
    have e2c : am_i2c (tp p1) = tp p1 := by
      unfold am_i2c
      omega
    rw [s_wd_eq] at es
    have nx : (s_le (tp p1) = true ∨ s_di (tp p1) = true) → WP (d + 2) 94 (8, [(2, 22), (0, k), (1, w64 (w64 (v * 37) + s_dg37 (tp p1))), (8, 0), (0, po), y5], [], am_w h1 22 6 (p1 + 1), 0, 0) K := fun z => by
      rw [if_pos ⟨by omega, z⟩] at es
      exact ih _ (p1 + 1) _ (by omega) (by omega) f.at (by rw [am_m_w, if_neg (by omega)]; exact ev) (x.at ⟨by omega, by omega⟩) es _
    have step : (s_le (tp p1) = true ∨ s_di (tp p1) = true) → am_call (d + 1) 97 [(2, 22), (0, p1)] h1 (fun x13 v14 h15 => am_okx x13 (am_call (d + 1) 100 [(0, am_i2c v14)] h15 (fun x16 v17 h18 => am_okx x16 ((am_t h18 22 = 5) ∧ (am_t h18 22 = 5) ∧ WP (d + 2) 94 (8, [(2, 22), (0, k), (1, w64 ((w64 (v * 37)) + v17)), (8, 0), (0, po), y5], [], (am_w h18 22 6 (w32 ((am_m h18 22 6) + 1))), 0, 0) K)))) := fun z => by
      refine c97 x ?_
      rw [ec]
      show am_call _ _ _ _ _
      rw [e2c]
      refine c100 (by omega) ?_
      show _ ∧ _
      simp only [x.t, x.f6, true_and]
      rw [w32_id (x := p1 + 1) (by omega) (by omega)]
      exact nx z
    refine v94_8 ?_
    simp only [x.t, x.f5, x.f6, true_and]
    refine ⟨fun z => c97 x ?_, fun z => absurd (show p1 < ln by omega) z⟩
    rw [ec]
    refine c98 ?_
    show _ ∧ _
    refine ⟨fun z1 => ?_, fun z1 => ?_⟩
    · simp only [x.t, x.f6, true_and]
      refine c97 x ?_
      rw [ec]
      refine c99 ?_
      show _ ∧ _
      refine ⟨fun z2 => ?_, fun z2 => ?_⟩
      · rw [if_neg (fun y => y.2.elim (fun y => if1 z1 (of_decide_eq_true y)) (fun y => if1 z2 (of_decide_eq_true y)))] at es
        have fn := fin h1 p1 v hp f ev x es
        simp only [x.t, x.f6, x.f1, x.t1, x.l1, true_and]
        rw [w32_id (x := p1 - po) (by omega) (by omega)]
        exact ⟨fn.1, fun z => ⟨k0, fn.2 z⟩⟩
      · simp only [x.t, x.f6, true_and]
        exact step (Or.inr (decide_eq_true (if0 z2)))
    · simp only [x.t, x.f6, true_and]
      exact step (Or.inl (decide_eq_true (if0 z1)))
end
