/-! ===== a new plan of the reference ===== -/
/-- rows that were made: field, length, which one -/
def KR (h : AH) (a : Int) : List (Int × Int × Int) → Prop
  | [] => True
  | e :: l => (am_m h a e.1 = a + e.2.2 ∧ am_t h (a + e.2.2) = 20 ∧ am_l h (a + e.2.2) = e.2.1 ∧ ∀ i, am_m h (a + e.2.2) i = 0) ∧ KR h a l
def okE (f m : Int) (l : List (Int × Int × Int)) : Bool := l.all fun e => decide (e.1 ≠ f ∧ 0 < e.2.2 ∧ e.2.2 < m)
def ZI (i : Int) : Prop := i = 0 ∨ i = 2 ∨ i = 6 ∨ i = 9 ∨ i = 10 ∨ i = 15 ∨ i = 17
def CU (h0 h : AH) (a m : Int) (l : List (Int × Int × Int)) : Prop := Fr 0 0 h0 h ∧ am_n h0 = a ∧ am_n h = a + m ∧ am_t h a = 7 ∧ KR h a l ∧ ∀ i, ZI i → am_m h a i = 0
theorem KR.cg {h h2 : AH} {a f m : Int} (et : ∀ b, b < a + m → am_t h2 b = am_t h b ∧ am_l h2 b = am_l h b) (ec : ∀ b i, b < a + m → ¬ (b = a ∧ i = f) → am_m h2 b i = am_m h b i) (hm : 0 < m) : ∀ l, okE f m l = true → KR h a l → KR h2 a l
  | [], _, _ => trivial
  | e :: l, ho, x => by
    have ho' : (decide (e.1 ≠ f ∧ 0 < e.2.2 ∧ e.2.2 < m) && okE f m l) = true := ho
    rw [Bool.and_eq_true] at ho'
    have h1 := of_decide_eq_true ho'.1
    obtain ⟨⟨x1, x2, x3, x4⟩, x5⟩ := x
    refine ⟨⟨(ec _ _ (by omega) (by omega)).trans x1, (et _ (by omega)).1.trans x2, (et _ (by omega)).2.trans x3, fun i => (ec _ _ (by omega) (by omega)).trans (x4 i)⟩, KR.cg et ec hm l ho'.2 x5⟩
theorem KR.hd {h : AH} {a f L m : Int} {l : List (Int × Int × Int)} (x : KR h a ((f, L, m) :: l)) : (am_m h a f = a + m ∧ am_t h (a + m) = 20 ∧ am_l h (a + m) = L ∧ ∀ i, am_m h (a + m) i = 0) ∧ KR h a l := x
theorem CU.go {h0 h : AH} {a m f L : Int} {l : List (Int × Int × Int)} (c : CU h0 h a m l) (hm : 0 < m) (hf : ¬ ZI f) (ok : okE f m l = true) : CU h0 (am_w (am_a h 20 L (fun _ => 0)) a f (am_n h)) a (m + 1) ((f, L, m) :: l) := by
  obtain ⟨fr, na, n, t, kr, zi⟩ := c
  have et : ∀ b, b < a + m → am_t (am_w (am_a h 20 L (fun _ => 0)) a f (am_n h)) b = am_t h b ∧ am_l (am_w (am_a h 20 L (fun _ => 0)) a f (am_n h)) b = am_l h b := fun b hb => by
    rw [am_t_w, am_l_w, am_t_a, am_l_a, if_neg (by omega), if_neg (by omega)]
    exact ⟨rfl, rfl⟩
  have ec : ∀ b i, b < a + m → ¬ (b = a ∧ i = f) → am_m (am_w (am_a h 20 L (fun _ => 0)) a f (am_n h)) b i = am_m h b i := fun b i hb z => by
    rw [am_m_w, if_neg z, am_m_a, if_neg (by omega)]
  refine ⟨fr.a.nw (by omega), na, ?_, (et a (by omega)).1.trans t, ⟨⟨?_, ?_, ?_, fun i => ?_⟩, kr.cg et ec hm l ok⟩, fun i hi => (ec a i (by omega) (fun y => hf (by rw [← y.2]; exact hi))).trans (zi i hi)⟩
  · show am_n h + 1 = _
    omega
  · rw [am_m_w, if_pos ⟨rfl, rfl⟩]
    exact n
  · rw [am_t_w, am_t_a, if_pos n.symm]
  · rw [am_l_w, am_l_a, if_pos n.symm]
  · rw [am_m_w, if_neg (by show ¬ (a + m = a ∧ _); omega), am_m_a, if_pos n.symm]
theorem CU.w8 {h0 h : AH} {a m : Int} {l : List (Int × Int × Int)} (c : CU h0 h a m l) (hm : 0 < m) (ok : okE 8 m l = true) : CU h0 (am_w h a 8 100) a m l := by
  obtain ⟨fr, na, n, t, kr, zi⟩ := c
  have ec : ∀ b i, b < a + m → ¬ (b = a ∧ i = 8) → am_m (am_w h a 8 100) b i = am_m h b i := fun b i hb z => by rw [am_m_w, if_neg z]
  exact ⟨fr.nw (by omega), na, n, t, KR.cg (h := h) (h2 := am_w h a 8 100) (fun _ _ => ⟨rfl, rfl⟩) ec hm l ok kr, fun i hi => (ec a i (by omega) (fun y => absurd hi (by rw [y.2]; unfold ZI; decide))).trans (zi i hi)⟩
/-- a field that is neither -/
theorem CU.f8 {h0 h : AH} {a m f L : Int} {l : List (Int × Int × Int)} (c : CU h0 h a m l) (hm : 0 < m) (hf : f ≠ 8) (e : am_m h a 8 = 100) : am_m (am_w (am_a h 20 L (fun _ => 0)) a f (am_n h)) a 8 = 100 := by
  have n := c.2.2.1
  rw [am_m_w, if_neg (by omega), am_m_a, if_neg (by omega)]
  exact e
/-- a new plan at a, nothing else changed -/
def NP (h0 h : AH) (a : Int) : Prop := Fr 0 0 h0 h ∧ P7 h a ∧ am_n h = a + 11 ∧ (∀ i, ZI i → am_m h a i = 0) ∧ am_m h a 8 = 100 ∧ ∀ b i, a + 1 ≤ b → b ≤ a + 10 → am_m h b i = 0
theorem df7 : am_df 7 0 = 0 ∧ am_df 7 2 = 0 ∧ am_df 7 6 = 0 ∧ am_df 7 9 = 0 ∧ am_df 7 10 = 0 ∧ am_df 7 15 = 0 ∧ am_df 7 17 = 0 := by decide
theorem CU.i0 {h0 : AH} {a : Int} (ha : am_n h0 = a) : CU h0 (am_a h0 7 18 (am_df 7)) a 1 [] := by
  refine ⟨Fr.rf.a, ha, by rw [am_n_a, ha], by rw [am_t_a, if_pos ha.symm], trivial, fun i hi => ?_⟩
  rw [am_m_a, if_pos ha.symm]
  obtain ⟨d1, d2, d3, d4, d5, d6, d7⟩ := df7
  unfold ZI at hi
  rcases hi with e | e | e | e | e | e | e <;> (rw [e]; assumption)