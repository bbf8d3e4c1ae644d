/-! ===== sorting: what stands in the row, in order; sums over it stay ===== -/
/-- the row with z at j -/
def vt9 (f : Int → Int) (j z : Int) : Int → Int := fun i => if i = j then z else f i
theorem sm_vt {f : Int → Int} {g : Int → Int} {j z : Int} {n : Nat} (h0 : 0 ≤ j) (h1 : j < (n : Int)) : sm (fun i => g (vt9 f j z i)) n = sm (fun i => g (f i)) n + (g z - g (f j)) := by
  have := sm_pt (f := fun i => g (f i)) (g := fun i => g (vt9 f j z i)) (p := j) h0 (fun i hi => by show g (vt9 f j z i) = g (f i); unfold vt9; rw [if_neg hi]) n
  rw [this, if_pos h1]
  show _ + (g (vt9 f j z j) - g (f j)) = _
  unfold vt9
  rw [if_pos rfl]
/-- a hole moved one place down: the value before it goes up -/
theorem sm_hole {f : Int → Int} {g : Int → Int} {j z : Int} {n : Nat} (h0 : 1 ≤ j) (h1 : j < (n : Int)) : sm (fun i => g (vt9 (vt9 f j (f (j - 1))) (j - 1) z i)) n = sm (fun i => g (vt9 f j z i)) n := by
  rw [sm_vt (f := vt9 f j (f (j - 1))) (j := j - 1) (by omega) (by omega), sm_vt (f := f) (by omega) h1, sm_vt (f := f) (by omega) h1]
  have : vt9 f j (f (j - 1)) (j - 1) = f (j - 1) := by
    unfold vt9
    rw [if_neg (by omega)]
  rw [this]
  omega
/-- sorted up to i, but for the hole at j, into which z goes; behind the hole all is above z -/
def HO (f : Int → Int) (j i z : Int) : Prop := (0 ≤ j) ∧ (j ≤ i) ∧ (∀ x y, 0 ≤ x → x ≤ y → y ≤ i → ¬ x = j → ¬ y = j → f x ≤ f y) ∧ (∀ y, j < y → y ≤ i → z ≤ f y)
theorem HO.j0 {f : Int → Int} {j i z : Int} (x : HO f j i z) : 0 ≤ j := x.1
theorem HO.ji {f : Int → Int} {j i z : Int} (x : HO f j i z) : j ≤ i := x.2.1
theorem HO.s {f : Int → Int} {j i z : Int} (x : HO f j i z) : ∀ x y, 0 ≤ x → x ≤ y → y ≤ i → ¬ x = j → ¬ y = j → f x ≤ f y := x.2.2.1
theorem HO.u {f : Int → Int} {j i z : Int} (x : HO f j i z) : ∀ y, j < y → y ≤ i → z ≤ f y := x.2.2.2
theorem HO.fill {f : Int → Int} {j i z : Int} (x : HO f j i z) (hl : 1 ≤ j → f (j - 1) ≤ z) : ∀ p q, 0 ≤ p → p ≤ q → q ≤ i → vt9 f j z p ≤ vt9 f j z q := by
  intro p q h0 h1 h2
  unfold vt9
  by_cases e1 : p = j
  · rw [if_pos e1]
    by_cases e2 : q = j
    · rw [if_pos e2]; exact Int.le_refl _
    · rw [if_neg e2]; exact x.u q (by omega) h2
  · rw [if_neg e1]
    by_cases e2 : q = j
    · rw [if_pos e2]
      have z1 := hl (by omega)
      have z2 := x.s p (j - 1) h0 (by omega) (by have := x.ji; omega) e1 (by omega)
      omega
    · rw [if_neg e2]; exact x.s p q h0 h1 h2 e1 e2
theorem HO.down {f : Int → Int} {j i z : Int} (x : HO f j i z) (h1 : 1 ≤ j) (hz : z ≤ f (j - 1)) : HO (vt9 f j (f (j - 1))) (j - 1) i z := by
  have hj := x.ji
  refine ⟨by omega, by omega, fun p q h0 h2 h3 n1 n2 => ?_, fun y h2 h3 => ?_⟩
  · unfold vt9
    by_cases e1 : p = j
    · rw [if_pos e1]
      by_cases e2 : q = j
      · rw [if_pos e2]; exact Int.le_refl _
      · rw [if_neg e2]; exact x.s (j - 1) q (by omega) (by omega) h3 (by omega) e2
    · rw [if_neg e1]
      by_cases e2 : q = j
      · rw [if_pos e2]
        exact x.s p (j - 1) h0 (by omega) (by omega) e1 (by omega)
      · rw [if_neg e2]; exact x.s p q h0 h2 h3 e1 e2
  · unfold vt9
    by_cases e2 : y = j
    · rw [if_pos e2]; exact hz
    · rw [if_neg e2]; exact x.u y (by omega) h3
theorem am_m_wv {h : AH} {a j z : Int} : am_m (am_w h a j z) a = vt9 (am_m h a) j z := by
  funext i
  rw [am_m_w]
  unfold vt9
  by_cases e : i = j
  · rw [if_pos ⟨rfl, e⟩, if_pos e]
  · rw [if_neg (fun w => e w.2), if_neg e]
/-- what a sorting of the row a leaves -/
def SO (h h2 : AH) (a : Int) (n : Nat) : Prop := (FP a a h h2) ∧ (am_n h2 = am_n h) ∧ (am_t h2 a = am_t h a) ∧ (am_l h2 a = am_l h a) ∧ (∀ g : Int → Int, sm (fun i => g (am_m h2 a i)) n = sm (fun i => g (am_m h a i)) n)
theorem SO.fp {h h2 : AH} {a : Int} {n : Nat} (x : SO h h2 a n) : FP a a h h2 := x.1
theorem SO.nn {h h2 : AH} {a : Int} {n : Nat} (x : SO h h2 a n) : am_n h2 = am_n h := x.2.1
theorem SO.t {h h2 : AH} {a : Int} {n : Nat} (x : SO h h2 a n) : am_t h2 a = am_t h a := x.2.2.1
theorem SO.l {h h2 : AH} {a : Int} {n : Nat} (x : SO h h2 a n) : am_l h2 a = am_l h a := x.2.2.2.1
theorem SO.g {h h2 : AH} {a : Int} {n : Nat} (x : SO h h2 a n) : ∀ g : Int → Int, sm (fun i => g (am_m h2 a i)) n = sm (fun i => g (am_m h a i)) n := x.2.2.2.2
theorem SO.rf {h : AH} {a : Int} {n : Nat} : SO h h a n := ⟨FP.rf, rfl, rfl, rfl, fun _ => rfl⟩
/-- the inner loop, with the hole at j -/
theorem s152_30 {d : Nat} {a i z : Int} {n : Nat} {h0 : AH} {K : AK} (hn : n ≤ 40) (hi : 0 ≤ i ∧ i < (n : Int))
    (k : ∀ h2 y3 y5, SO h0 h2 a n → (∀ p q, 0 ≤ p → p ≤ q → q ≤ i → am_m h2 a p ≤ am_m h2 a q) → WP d 152 (3, [(2, a), (0, 0), (0, (n : Int)), y3, (0, i), y5], [], h2, 0, 0) K) :
    ∀ (j : Nat) (h : AH), (j : Int) ≤ i → am_t h a = 20 → am_l h a = (n : Int) → HO (am_m h a) (j : Int) i z → FP a a h0 h → am_n h = am_n h0 → am_t h a = am_t h0 a → am_l h a = am_l h0 a → (∀ g : Int → Int, sm (fun q => g (vt9 (am_m h a) (j : Int) z q)) n = sm (fun q => g (am_m h0 a q)) n) →
      WP d 152 (30, [(2, a), (0, 0), (0, (n : Int)), (0, (j : Int)), (0, i), (0, z)], [], h, 0, 0) K := by
  have fin : ∀ (j : Nat) (h : AH), (j : Int) ≤ i → HO (am_m h a) (j : Int) i z → (1 ≤ (j : Int) → am_m h a ((j : Int) - 1) ≤ z) → FP a a h0 h → am_n h = am_n h0 → am_t h a = am_t h0 a → am_l h a = am_l h0 a → (∀ g : Int → Int, sm (fun q => g (vt9 (am_m h a) (j : Int) z q)) n = sm (fun q => g (am_m h0 a q)) n) → ∀ y3 y5, WP d 152 (3, [(2, a), (0, 0), (0, (n : Int)), y3, (0, i), y5], [], am_w h a (j : Int) z, 0, 0) K := by
    intro j h hj x hl f e1 e2 e3 hg y3 y5
    refine k _ y3 y5 ⟨f.w, by rw [am_n_w]; exact e1, e2, e3, fun g => ?_⟩ (fun p q p0 p1 p2 => ?_)
    · rw [am_m_wv]; exact hg g
    · rw [am_m_wv]; exact x.fill hl p q p0 p1 p2
  intro j
  induction j with
  | zero =>
    intro h hj ht hl x f e1 e2 e3 hg
    refine v152_30 ⟨fun _ => ⟨⟨ht, ?_, ?_⟩, ?_⟩, fun w => absurd (show w32 (((0 : Nat) : Int) + (-1)) < 0 by decide) w⟩
    · decide
    · rw [show w32 (w32 (((0 : Nat) : Int) + (-1)) + 1) = 0 by decide]; omega
    · rw [show w32 (w32 (((0 : Nat) : Int) + (-1)) + 1) = ((0 : Nat) : Int) by decide]
      exact fin 0 h hj x (fun w => absurd w (by decide)) f e1 e2 e3 hg _ _
  | succ j ih =>
    intro h hj ht hl x f e1 e2 e3 hg
    have w1 : w32 (((j + 1 : Nat) : Int) + (-1)) = (j : Int) := by rw [w32_id (by omega) (by omega)]; omega
    have w2 : w32 ((j : Int) + 1) = ((j + 1 : Nat) : Int) := by rw [w32_id (by omega) (by omega)]; omega
    refine v152_30 ?_
    rw [w1, w2]
    clear w1 w2
    refine ⟨fun w => by omega, fun _ => ⟨⟨ht, by omega, by omega⟩, fun w => ⟨⟨ht, by omega, by omega⟩, ⟨ht, by omega, by omega⟩, ?_⟩, fun w => ⟨⟨ht, by omega, by omega⟩, ?_⟩⟩⟩
    · have xd := x.down (by omega) (by rw [show ((j + 1 : Nat) : Int) - 1 = (j : Int) by omega]; omega)
      rw [show ((j + 1 : Nat) : Int) - 1 = (j : Int) by omega] at xd
      refine ih _ (by omega) (by rw [am_t_w]; exact ht) (by rw [am_l_w]; exact hl) (by rw [am_m_wv]; exact xd) f.w (by rw [am_n_w]; exact e1) e2 e3 (fun g => ?_)
      rw [am_m_wv]
      have hh := sm_hole (f := am_m h a) (g := g) (j := ((j + 1 : Nat) : Int)) (z := z) (n := n) (by omega) (by omega)
      rw [show ((j + 1 : Nat) : Int) - 1 = (j : Int) by omega] at hh
      exact hh.trans (hg g)
    · exact fin (j + 1) h hj x (fun _ => by rw [show ((j + 1 : Nat) : Int) - 1 = (j : Int) by omega]; omega) f e1 e2 e3 hg _ _
/-- the outer loop -/
theorem s152_3 {d : Nat} {a : Int} {n : Nat} {h0 : AH} {K : AK} (hn : n ≤ 40) (ht0 : am_t h0 a = 20) (hl0 : am_l h0 a = (n : Int))
    (k : ∀ h2, SO h0 h2 a n → (∀ p q, 0 ≤ p → p ≤ q → q < (n : Int) → am_m h2 a p ≤ am_m h2 a q) → K 0 0 h2) :
    ∀ (r : Nat) (i : Nat) (h : AH) (y3 y5 : AV), i + r = n - 1 → SO h0 h a n → (∀ p q, 0 ≤ p → p ≤ q → q ≤ (i : Int) → am_m h a p ≤ am_m h a q) → WP d 152 (3, [(2, a), (0, 0), (0, (n : Int)), y3, (0, (i : Int)), y5], [], h, 0, 0) K := by
  intro r
  induction r with
  | zero =>
    intro i h y3 y5 hi so hs
    have w1 : w32 ((i : Int) + 1) = ((i + 1 : Nat) : Int) := by rw [w32_id (by omega) (by omega)]; omega
    refine v152_3 ?_
    rw [w1]
    clear w1
    exact ⟨fun w => by omega, fun _ => k h so (fun p q p0 p1 p2 => hs p q p0 p1 (by omega))⟩
  | succ r ih =>
    intro i h y3 y5 hi so hs
    have w1 : w32 ((i : Int) + 1) = ((i + 1 : Nat) : Int) := by rw [w32_id (by omega) (by omega)]; omega
    have w2 : w32 (((i + 1 : Nat) : Int) - 1) = (i : Int) := by rw [w32_id (by omega) (by omega)]; omega
    have ht : am_t h a = 20 := so.t.trans ht0
    have hl : am_l h a = (n : Int) := so.l.trans hl0
    refine v152_3 ?_
    rw [w1, w2]
    clear w1 w2
    refine ⟨fun _ => ⟨⟨ht, by omega, by omega⟩, ⟨ht, by omega, by omega⟩, fun w => ?_, fun w => ?_⟩, fun w => by omega⟩
    · refine s152_30 (h0 := h0) (i := ((i + 1 : Nat) : Int)) hn (by omega) (fun h2 z3 z5 so2 hs2 => ih (i + 1) h2 z3 z5 (by omega) so2 hs2) (i + 1) h (Int.le_refl _) ht hl ⟨by omega, Int.le_refl _, fun x y x0 x1 x2 n1 n2 => hs x y x0 x1 (by omega), fun y y0 y1 => by omega⟩ so.fp so.nn so.t so.l (fun g => ?_)
      rw [sm_vt (by omega) (by omega), so.g]
      omega
    · refine ih (i + 1) h _ _ (by omega) so (fun p q p0 p1 p2 => ?_)
      by_cases e : q = ((i + 1 : Nat) : Int)
      · subst e
        by_cases e2 : p = ((i + 1 : Nat) : Int)
        · rw [e2]; exact Int.le_refl _
        · have := hs p (i : Int) p0 (by omega) (Int.le_refl _)
          omega
      · exact hs p q p0 p1 (by omega)
theorem d150 {d : Nat} {a : Int} {n : Nat} {h : AH} {K : AK} (hn : n ≤ 40) (ht : am_t h a = 20) (hl : am_l h a = (n : Int))
    (k : ∀ h2, SO h h2 a n → (∀ p q, 0 ≤ p → p ≤ q → q < (n : Int) → am_m h2 a p ≤ am_m h2 a q) → K 0 0 h2) : am_call (d + 3) 150 [(2, a)] h K := by
  have w0 : w32 ((n : Int) - 0) = (n : Int) := by rw [w32_id (by omega) (by omega)]; omega
  refine v150 ⟨by rw [ht]; decide, ?_⟩
  rw [hl]
  refine v153 ⟨fun w => absurd w (by decide), fun _ => v154 ⟨fun _ => ⟨fun w => absurd w (by decide), fun _ => ⟨fun _ => ?_, fun w => ?_⟩⟩, fun w => ?_⟩⟩
  · refine v152 ?_
    by_cases h0 : n = 0
    · refine v152_3 ⟨fun w => ?_, fun _ => okx (okx (okx (k h SO.rf (fun p q p0 p1 p2 => by omega))))⟩
      rw [show w32 ((0 : Int) + 1) = 1 by decide] at w
      omega
    · exact s152_3 (d := d) (K := fun x1 _ h3 => am_okx x1 (am_okx 0 (am_okx 0 (K 0 0 h3)))) (h0 := h) hn ht hl (fun h2 so hs => okx (okx (okx (k h2 so hs)))) (n - 1) 0 h (9, 0) (9, 0) (by omega) SO.rf (fun p q p0 p1 p2 => by rw [show p = q by omega]; exact Int.le_refl _)
  · rw [w0] at w; omega
  · rw [w0, show w32 (65 + 0) = 65 by decide] at w; omega
