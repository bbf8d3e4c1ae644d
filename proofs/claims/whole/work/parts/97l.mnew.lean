/-! ===== a new plan of the reference ===== -/
/-- rows that were made: field, length, which one -/
def KR (h : AH) (a : Int) : List (Int × Int × Int) → Prop
  | [] => True
  | e :: l => (am_m h a e.1 = a + e.2.2 ∧ am_t h (a + e.2.2) = 20 ∧ am_l h (a + e.2.2) = e.2.1 ∧ ∀ i, am_m h (a + e.2.2) i = 0) ∧ KR h a l
def okE (f m : Int) (l : List (Int × Int × Int)) : Bool := l.all fun e => decide (e.1 ≠ f ∧ 0 < e.2.2 ∧ e.2.2 < m)
def ZI (i : Int) : Prop := i = 0 ∨ i = 2 ∨ i = 6 ∨ i = 9 ∨ i = 10 ∨ i = 15 ∨ i = 17
def CU (h0 h : AH) (a m : Int) (l : List (Int × Int × Int)) : Prop := Fr 0 0 h0 h ∧ am_n h0 = a ∧ am_n h = a + m ∧ am_t h a = 7 ∧ KR h a l ∧ ∀ i, ZI i → am_m h a i = 0
theorem KR.cg {h h2 : AH} {a f m : Int} (et : ∀ b, b < a + m → am_t h2 b = am_t h b ∧ am_l h2 b = am_l h b) (ec : ∀ b i, b < a + m → ¬ (b = a ∧ i = f) → am_m h2 b i = am_m h b i) (hm : 0 < m) : ∀ l, okE f m l = true → KR h a l → KR h2 a l
  | [], _, _ => trivial
  | e :: l, ho, x => by
    have ho' : (decide (e.1 ≠ f ∧ 0 < e.2.2 ∧ e.2.2 < m) && okE f m l) = true := ho
    rw [Bool.and_eq_true] at ho'
    have h1 := of_decide_eq_true ho'.1
    obtain ⟨⟨x1, x2, x3, x4⟩, x5⟩ := x
    refine ⟨⟨(ec _ _ (by omega) (by omega)).trans x1, (et _ (by omega)).1.trans x2, (et _ (by omega)).2.trans x3, fun i => (ec _ _ (by omega) (by omega)).trans (x4 i)⟩, KR.cg et ec hm l ho'.2 x5⟩
theorem KR.hd {h : AH} {a f L m : Int} {l : List (Int × Int × Int)} (x : KR h a ((f, L, m) :: l)) : (am_m h a f = a + m ∧ am_t h (a + m) = 20 ∧ am_l h (a + m) = L ∧ ∀ i, am_m h (a + m) i = 0) ∧ KR h a l := x
theorem CU.go {h0 h : AH} {a m f L : Int} {l : List (Int × Int × Int)} (c : CU h0 h a m l) (hm : 0 < m) (hf : ¬ ZI f) (ok : okE f m l = true) : CU h0 (am_w (am_a h 20 L (fun _ => 0)) a f (am_n h)) a (m + 1) ((f, L, m) :: l) := by
  obtain ⟨fr, na, n, t, kr, zi⟩ := c
  have et : ∀ b, b < a + m → am_t (am_w (am_a h 20 L (fun _ => 0)) a f (am_n h)) b = am_t h b ∧ am_l (am_w (am_a h 20 L (fun _ => 0)) a f (am_n h)) b = am_l h b := fun b hb => by
    rw [am_t_w, am_l_w, am_t_a, am_l_a, if_neg (by omega), if_neg (by omega)]
    exact ⟨rfl, rfl⟩
  have ec : ∀ b i, b < a + m → ¬ (b = a ∧ i = f) → am_m (am_w (am_a h 20 L (fun _ => 0)) a f (am_n h)) b i = am_m h b i := fun b i hb z => by
    rw [am_m_w, if_neg z, am_m_a, if_neg (by omega)]
  refine ⟨fr.a.nw (by omega), na, ?_, (et a (by omega)).1.trans t, ⟨⟨?_, ?_, ?_, fun i => ?_⟩, kr.cg et ec hm l ok⟩, fun i hi => (ec a i (by omega) (fun y => hf (by rw [← y.2]; exact hi))).trans (zi i hi)⟩
  · show am_n h + 1 = _
    omega
  · rw [am_m_w, if_pos ⟨rfl, rfl⟩]
    exact n
  · rw [am_t_w, am_t_a, if_pos n.symm]
  · rw [am_l_w, am_l_a, if_pos n.symm]
  · rw [am_m_w, if_neg (by show ¬ (a + m = a ∧ _); omega), am_m_a, if_pos n.symm]
theorem CU.w8 {h0 h : AH} {a m : Int} {l : List (Int × Int × Int)} (c : CU h0 h a m l) (hm : 0 < m) (ok : okE 8 m l = true) : CU h0 (am_w h a 8 100) a m l := by
  obtain ⟨fr, na, n, t, kr, zi⟩ := c
  have ec : ∀ b i, b < a + m → ¬ (b = a ∧ i = 8) → am_m (am_w h a 8 100) b i = am_m h b i := fun b i hb z => by rw [am_m_w, if_neg z]
  exact ⟨fr.nw (by omega), na, n, t, KR.cg (h := h) (h2 := am_w h a 8 100) (fun _ _ => ⟨rfl, rfl⟩) ec hm l ok kr, fun i hi => (ec a i (by omega) (fun y => absurd hi (by rw [y.2]; unfold ZI; decide))).trans (zi i hi)⟩
/-- a field that is neither -/
theorem CU.f8 {h0 h : AH} {a m f L : Int} {l : List (Int × Int × Int)} (c : CU h0 h a m l) (hm : 0 < m) (hf : f ≠ 8) (e : am_m h a 8 = 100) : am_m (am_w (am_a h 20 L (fun _ => 0)) a f (am_n h)) a 8 = 100 := by
  have n := c.2.2.1
  rw [am_m_w, if_neg (by omega), am_m_a, if_neg (by omega)]
  exact e
/-- a new plan at a, nothing else changed -/
def NP (h0 h : AH) (a : Int) : Prop := Fr 0 0 h0 h ∧ P7 h a ∧ am_n h = a + 11 ∧ (∀ i, ZI i → am_m h a i = 0) ∧ am_m h a 8 = 100 ∧ ∀ b i, a + 1 ≤ b → b ≤ a + 10 → am_m h b i = 0
theorem df7 : am_df 7 0 = 0 ∧ am_df 7 2 = 0 ∧ am_df 7 6 = 0 ∧ am_df 7 9 = 0 ∧ am_df 7 10 = 0 ∧ am_df 7 15 = 0 ∧ am_df 7 17 = 0 := by decide
theorem CU.i0 {h0 : AH} {a : Int} (ha : am_n h0 = a) : CU h0 (am_a h0 7 18 (am_df 7)) a 1 [] := by
  refine ⟨Fr.rf.a, ha, by rw [am_n_a, ha], by rw [am_t_a, if_pos ha.symm], trivial, fun i hi => ?_⟩
  rw [am_m_a, if_pos ha.symm]
  obtain ⟨d1, d2, d3, d4, d5, d6, d7⟩ := df7
  unfold ZI at hi
  rcases hi with e | e | e | e | e | e | e <;> (rw [e]; assumption)
theorem n127_91 {d : Nat} {h0 g : AH} {a : Int} {K : AK} (a0 : 0 ≤ a) (c : CU h0 g a 11 [(16, 400, 10), (14, 800, 9), (13, 13, 8), (12, 13, 7), (11, 12, 6), (7, 12, 5), (5, 12, 4), (4, 12, 3), (3, 12, 2), (1, 4, 1)]) (e8 : am_m g a 8 = 100) (k : ∀ h2, NP h0 h2 a → K 0 0 h2) : WP d 127 (91, [(2, a)], [], g, 10, 1290) K := by
  obtain ⟨fr, na, n, tt, kr, zi⟩ := c
  have pb : a + 10 < am_n g := by omega
  have cs : ∀ b, a + 1 ≤ b → b ≤ a + 10 → b = a + 10 ∨ b = a + 9 ∨ b = a + 8 ∨ b = a + 7 ∨ b = a + 6 ∨ b = a + 5 ∨ b = a + 4 ∨ b = a + 3 ∨ b = a + 2 ∨ b = a + 1 := fun b h1 h2 => by omega
  obtain ⟨⟨f0, t0, l0, z0⟩, k0⟩ := kr.hd
  obtain ⟨⟨f1, t1, l1, z1⟩, k1⟩ := k0.hd
  obtain ⟨⟨f2, t2, l2, z2⟩, k2⟩ := k1.hd
  obtain ⟨⟨f3, t3, l3, z3⟩, k3⟩ := k2.hd
  obtain ⟨⟨f4, t4, l4, z4⟩, k4⟩ := k3.hd
  obtain ⟨⟨f5, t5, l5, z5⟩, k5⟩ := k4.hd
  obtain ⟨⟨f6, t6, l6, z6⟩, k6⟩ := k5.hd
  obtain ⟨⟨f7, t7, l7, z7⟩, k7⟩ := k6.hd
  obtain ⟨⟨f8, t8, l8, z8⟩, k8⟩ := k7.hd
  obtain ⟨⟨f9, t9, l9, z9⟩, k9⟩ := k8.hd
  refine v127_91 (k _ ⟨fr, ⟨tt, f9, t9, l9, f8, t8, l8, f7, t7, l7, f6, t6, l6, f5, t5, l5, f4, t4, l4, f3, t3, l3, f2, t2, l2, f1, t1, l1, f0, t0, l0, a0, pb⟩, n, zi, e8, fun b i h1 h2 => ?_⟩)
  rcases cs b h1 h2 with e | e | e | e | e | e | e | e | e | e
  · rw [e]
    exact z0 _
  · rw [e]
    exact z1 _
  · rw [e]
    exact z2 _
  · rw [e]
    exact z3 _
  · rw [e]
    exact z4 _
  · rw [e]
    exact z5 _
  · rw [e]
    exact z6 _
  · rw [e]
    exact z7 _
  · rw [e]
    exact z8 _
  · rw [e]
    exact z9 _
theorem n127_82 {d : Nat} {h0 g : AH} {a : Int} {K : AK} (a0 : 0 ≤ a) (c : CU h0 g a 10 [(14, 800, 9), (13, 13, 8), (12, 13, 7), (11, 12, 6), (7, 12, 5), (5, 12, 4), (4, 12, 3), (3, 12, 2), (1, 4, 1)]) (e8 : am_m g a 8 = 100) (k : ∀ h2, NP h0 h2 a → K 0 0 h2) : WP d 127 (82, [(2, a)], [], g, 9, 890) K := by
  have c2 := c.go (f := 16) (L := 400) (by decide) (by unfold ZI; decide) (by decide)
  exact v127_82 ⟨⟨⟨by decide, by decide⟩, by decide, by decide⟩, c2.2.2.2.1, n127_91 a0 c2 (c.f8 (f := 16) (L := 400) (by decide) (by decide) e8) k⟩
theorem n127_73 {d : Nat} {h0 g : AH} {a : Int} {K : AK} (a0 : 0 ≤ a) (c : CU h0 g a 9 [(13, 13, 8), (12, 13, 7), (11, 12, 6), (7, 12, 5), (5, 12, 4), (4, 12, 3), (3, 12, 2), (1, 4, 1)]) (e8 : am_m g a 8 = 100) (k : ∀ h2, NP h0 h2 a → K 0 0 h2) : WP d 127 (73, [(2, a)], [], g, 8, 90) K := by
  have c2 := c.go (f := 14) (L := 800) (by decide) (by unfold ZI; decide) (by decide)
  exact v127_73 ⟨⟨⟨by decide, by decide⟩, by decide, by decide⟩, c2.2.2.2.1, n127_82 a0 c2 (c.f8 (f := 14) (L := 800) (by decide) (by decide) e8) k⟩
theorem n127_65 {d : Nat} {h0 g : AH} {a : Int} {K : AK} (a0 : 0 ≤ a) (c : CU h0 g a 8 [(12, 13, 7), (11, 12, 6), (7, 12, 5), (5, 12, 4), (4, 12, 3), (3, 12, 2), (1, 4, 1)]) (e8 : am_m g a 8 = 100) (k : ∀ h2, NP h0 h2 a → K 0 0 h2) : WP d 127 (65, [(2, a)], [], g, 7, 77) K := by
  have c2 := c.go (f := 13) (L := 13) (by decide) (by unfold ZI; decide) (by decide)
  exact v127_65 ⟨⟨⟨by decide, by decide⟩, by decide, by decide⟩, c2.2.2.2.1, n127_73 a0 c2 (c.f8 (f := 13) (L := 13) (by decide) (by decide) e8) k⟩
theorem n127_57 {d : Nat} {h0 g : AH} {a : Int} {K : AK} (a0 : 0 ≤ a) (c : CU h0 g a 7 [(11, 12, 6), (7, 12, 5), (5, 12, 4), (4, 12, 3), (3, 12, 2), (1, 4, 1)]) (e8 : am_m g a 8 = 100) (k : ∀ h2, NP h0 h2 a → K 0 0 h2) : WP d 127 (57, [(2, a)], [], g, 6, 64) K := by
  have c2 := c.go (f := 12) (L := 13) (by decide) (by unfold ZI; decide) (by decide)
  exact v127_57 ⟨⟨⟨by decide, by decide⟩, by decide, by decide⟩, c2.2.2.2.1, n127_65 a0 c2 (c.f8 (f := 12) (L := 13) (by decide) (by decide) e8) k⟩
theorem n127_49 {d : Nat} {h0 g : AH} {a : Int} {K : AK} (a0 : 0 ≤ a) (c : CU h0 g a 6 [(7, 12, 5), (5, 12, 4), (4, 12, 3), (3, 12, 2), (1, 4, 1)]) (e8 : am_m g a 8 = 100) (k : ∀ h2, NP h0 h2 a → K 0 0 h2) : WP d 127 (49, [(2, a)], [], g, 5, 52) K := by
  have c2 := c.go (f := 11) (L := 12) (by decide) (by unfold ZI; decide) (by decide)
  exact v127_49 ⟨⟨⟨by decide, by decide⟩, by decide, by decide⟩, c2.2.2.2.1, n127_57 a0 c2 (c.f8 (f := 11) (L := 12) (by decide) (by decide) e8) k⟩
theorem n127_43 {d : Nat} {h0 g : AH} {a : Int} {K : AK} (a0 : 0 ≤ a) (c : CU h0 g a 6 [(7, 12, 5), (5, 12, 4), (4, 12, 3), (3, 12, 2), (1, 4, 1)]) (k : ∀ h2, NP h0 h2 a → K 0 0 h2) : WP d 127 (43, [(2, a)], [], g, 5, 52) K := by
  exact v127_43 ⟨c.2.2.2.1, n127_49 a0 (c.w8 (by decide) (by decide)) (by rw [am_m_w, if_pos ⟨rfl, rfl⟩]) k⟩
theorem n127_35 {d : Nat} {h0 g : AH} {a : Int} {K : AK} (a0 : 0 ≤ a) (c : CU h0 g a 5 [(5, 12, 4), (4, 12, 3), (3, 12, 2), (1, 4, 1)]) (k : ∀ h2, NP h0 h2 a → K 0 0 h2) : WP d 127 (35, [(2, a)], [], g, 4, 40) K := by
  have c2 := c.go (f := 7) (L := 12) (by decide) (by unfold ZI; decide) (by decide)
  exact v127_35 ⟨⟨⟨by decide, by decide⟩, by decide, by decide⟩, c2.2.2.2.1, n127_43 a0 c2 k⟩
theorem n127_27 {d : Nat} {h0 g : AH} {a : Int} {K : AK} (a0 : 0 ≤ a) (c : CU h0 g a 4 [(4, 12, 3), (3, 12, 2), (1, 4, 1)]) (k : ∀ h2, NP h0 h2 a → K 0 0 h2) : WP d 127 (27, [(2, a)], [], g, 3, 28) K := by
  have c2 := c.go (f := 5) (L := 12) (by decide) (by unfold ZI; decide) (by decide)
  exact v127_27 ⟨⟨⟨by decide, by decide⟩, by decide, by decide⟩, c2.2.2.2.1, n127_35 a0 c2 k⟩
theorem n127_19 {d : Nat} {h0 g : AH} {a : Int} {K : AK} (a0 : 0 ≤ a) (c : CU h0 g a 3 [(3, 12, 2), (1, 4, 1)]) (k : ∀ h2, NP h0 h2 a → K 0 0 h2) : WP d 127 (19, [(2, a)], [], g, 2, 16) K := by
  have c2 := c.go (f := 4) (L := 12) (by decide) (by unfold ZI; decide) (by decide)
  exact v127_19 ⟨⟨⟨by decide, by decide⟩, by decide, by decide⟩, c2.2.2.2.1, n127_27 a0 c2 k⟩
theorem n127_11 {d : Nat} {h0 g : AH} {a : Int} {K : AK} (a0 : 0 ≤ a) (c : CU h0 g a 2 [(1, 4, 1)]) (k : ∀ h2, NP h0 h2 a → K 0 0 h2) : WP d 127 (11, [(2, a)], [], g, 1, 4) K := by
  have c2 := c.go (f := 3) (L := 12) (by decide) (by unfold ZI; decide) (by decide)
  exact v127_11 ⟨⟨⟨by decide, by decide⟩, by decide, by decide⟩, c2.2.2.2.1, n127_19 a0 c2 k⟩
theorem n127_0 {d : Nat} {h0 g : AH} {a : Int} {K : AK} (a0 : 0 ≤ a) (c : CU h0 g a 1 []) (k : ∀ h2, NP h0 h2 a → K 0 0 h2) : am_call d 127 [(2, a)] g K := by
  have c2 := c.go (f := 1) (L := 4) (by decide) (by unfold ZI; decide) (by decide)
  exact v127 ⟨a0, ⟨⟨by decide, by decide⟩, by decide, by decide⟩, c2.2.2.2.1, n127_11 a0 c2 k⟩
theorem c127 {d : Nat} {h0 : AH} {a : Int} {K : AK} (ha : am_n h0 = a) (a0 : 0 ≤ a) (k : ∀ h2, NP h0 h2 a → K 0 0 h2) : am_call d 127 [(2, a)] (am_a h0 7 18 (am_df 7)) K := n127_0 a0 (CU.i0 ha) k
