/-! ===== cutting: numbers, symbols ===== -/
def s_di (x : Int) : Bool := decide (48 ≤ x ∧ x ≤ 57)
def s_le (x : Int) : Bool := decide (97 ≤ x ∧ x ≤ 122)
/-- a heap that differs from h in the place reached, and in the value of one token -/
def FT (h h2 : AH) (k : Int) : Prop := Fr 22 5 h h2 ∧ ∀ b j, ¬ (b = 22 ∧ j = 6) → ¬ (b = 24 ∧ j = k) → am_m h2 b j = am_m h b j
theorem FT.rf {h : AH} {k : Int} : FT h h k := ⟨Fr.rf, fun _ _ _ _ => rfl⟩
theorem FT.at {h h2 : AH} {k v : Int} (f : FT h h2 k) : FT h (am_w h2 22 6 v) k := ⟨f.1.w (by decide) (by decide), fun b j z1 z2 => by rw [am_m_w, if_neg z1]; exact f.2 b j z1 z2⟩
theorem FT.va {h h2 : AH} {k v : Int} (f : FT h h2 k) : FT h (am_w h2 24 k v) k := ⟨f.1.w (by decide) (by decide), fun b j z1 z2 => by rw [am_m_w, if_neg z2]; exact f.2 b j z1 z2⟩
theorem TK.va {h : AH} {ln po i v : Int} {tp : Int → Int} (x : TK h ln po tp) : TK (am_w h 24 i v) ln po tp := by
  have ee : ∀ b j, ¬ (b = 24 ∧ j = i) → am_m (am_w h 24 i v) b j = am_m h b j := fun b j hn => by rw [am_m_w, if_neg hn]
  exact ⟨x.t, (ee _ _ (by omega)).trans x.f0, (ee _ _ (by omega)).trans x.f1, (ee _ _ (by omega)).trans x.f2, (ee _ _ (by omega)).trans x.f3, (ee _ _ (by omega)).trans x.f4, (ee _ _ (by omega)).trans x.f5, (ee _ _ (by omega)).trans x.f6, x.t0, x.l0, x.t1, x.l1, x.t2, x.l2, x.t3, x.l3, x.ta, x.la, x.n, x.lb, x.pb, fun j z1 z2 => (ee _ _ (by omega)).trans (x.tc j z1 z2), x.tr, fun j z1 z2 => (ee _ _ (by omega)).trans (x.kw j z1 z2)⟩
/-- behind the digits from j on, and what they say -/
def s_nf0 (tp : Int → Int) (ln : Int) : Nat → Int → Int → Int × Int
  | 0, j, v => (j, v)
  | n + 1, j, v => if j < ln ∧ s_di (tp j) = true then s_nf0 tp ln n (j + 1) (w64 (w64 (w64 (v * 10) + tp j) - 48)) else (j, v)
def s_nu (tp : Int → Int) (ln j v : Int) : Int × Int := s_nf0 tp ln (ln - j).toNat j v
section
variable {d : Nat} {h : AH} {ln po i k : Int} {tp : Int → Int} {K : AK}
theorem s_nu_eq {j v : Int} : s_nu tp ln j v = if j < ln ∧ s_di (tp j) = true then s_nu tp ln (j + 1) (w64 (w64 (w64 (v * 10) + tp j) - 48)) else (j, v) := by
  unfold s_nu
  by_cases z : j < ln
  · have e : (ln - j).toNat = (ln - (j + 1)).toNat + 1 := by omega
    rw [e]
    rfl
  · rw [if_neg (fun y => z y.1), show (ln - j).toNat = 0 by omega]
    rfl
theorem c95 (x : TK h ln po tp) (k0 : 0 ≤ k ∧ k < 401) (kk : ∀ h2, FT h h2 k → TK h2 ln (s_nu tp ln po 0).1 tp → am_m h2 24 k = (s_nu tp ln po 0).2 → K 0 (if 6 < (s_nu tp ln po 0).1 - po then 261 else 257) h2) : am_call (d + 1) 95 [(2, 22), (0, k)] h K := by
  have pb0 := x.pb
  have lb := x.lb
  refine v95 ?_
  simp only [x.t, x.f6, true_and]
  suffices H : ∀ n : Nat, ∀ h1 p1 v, (ln - p1).toNat = n → po ≤ p1 → FT h h1 k → TK h1 ln p1 tp → s_nu tp ln p1 v = s_nu tp ln po 0 → WP (d + 1) 95 (8, [(2, 22), (0, k), (1, v), (8, 0), (0, po)], [], h1, 0, 0) K from H _ h po 0 rfl (Int.le_refl _) FT.rf x rfl
  have fin : ∀ h1 p1 v, po ≤ p1 → FT h h1 k → TK h1 ln p1 tp → (p1, v) = s_nu tp ln po 0 → ((6 < p1 - po → K 0 261 (am_w h1 24 k v)) ∧ (¬ 6 < p1 - po → K 0 257 (am_w h1 24 k v))) := fun h1 p1 v hp f x es => by
    have k1 := kk (am_w h1 24 k v) f.va
    rw [← es] at k1
    have k2 := k1 x.va (by rw [am_m_w, if_pos ⟨rfl, rfl⟩])
    refine ⟨fun z => ?_, fun z => ?_⟩
    · rw [if_pos z] at k2
      exact k2
    · rw [if_neg z] at k2
      exact k2
  intro n
  induction n with
  | zero =>
    intro h1 p1 v hn hp f x es
    have pb := x.pb
    rw [s_nu_eq, if_neg (fun y => by omega)] at es
    have xv := x.va (i := k) (v := v)
    refine v95_8 ?_
    simp only [x.t, x.f5, x.f6, x.f1, x.t1, x.l1, true_and]
    simp only [xv.t, xv.f6, true_and]
    rw [w32_id (x := p1 - po) (by omega) (by omega)]
    exact ⟨fun z => absurd z (by omega), fun _ => ⟨k0, fin h1 p1 v hp f x es⟩⟩
  | succ n ih =>
    intro h1 p1 v hn hp f x es
    have pb := x.pb
    have ec : s_ch tp ln p1 = tp p1 := if_pos ⟨by omega, by omega⟩
    rw [s_nu_eq] at es
    have xv := x.va (i := k) (v := v)
    refine v95_8 ?_
    simp only [x.t, x.f5, x.f6, true_and]
    refine ⟨fun z => c97 x ?_, fun z => absurd (show p1 < ln by omega) z⟩
    rw [ec]
    refine c99 ?_
    show _ ∧ _
    simp only [x.t, x.f5, x.f6, x.f1, x.t1, x.l1, true_and]
    simp only [xv.t, xv.f6, true_and]
    rw [w32_id (x := p1 - po) (by omega) (by omega)]
    refine ⟨fun z1 => ?_, fun z1 => ?_⟩
    · rw [if_neg (fun y => if1 z1 (of_decide_eq_true y.2))] at es
      exact ⟨k0, fin h1 p1 v hp f x es⟩
    · have zd := if0 z1
      rw [if_pos ⟨by omega, decide_eq_true zd⟩] at es
      refine c97 x ?_
      rw [ec]
      show _ ∧ _
      simp only [x.t, x.f6, true_and]
      rw [w32_id (x := p1 + 1) (by omega) (by omega)]
      exact ih _ (p1 + 1) _ (by omega) (by omega) f.at (x.at ⟨by omega, by omega⟩) es
end
