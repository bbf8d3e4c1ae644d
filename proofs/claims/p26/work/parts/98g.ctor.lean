/-! ===== objects as they are made ===== -/
def RWS (h : AH) (a : Int) : List (Int × Nat × Int) → Prop
  | [] => True
  | e :: l => (am_t h (a + e.1) = e.2.1 ∧ am_l h (a + e.1) = e.2.2 ∧ ∀ i, am_m h (a + e.1) i = 0) ∧ RWS h a l
def okO (m : Int) (l : List (Int × Nat × Int)) : Bool := l.all fun e => decide (0 < e.1 ∧ e.1 < m)
def CU3 (h0 h : AH) (a m : Int) (T : Nat) (G : Int → Int) (l : List (Int × Nat × Int)) : Prop := Fr 0 0 h0 h ∧ am_n h0 = a ∧ am_n h = a + m ∧ am_t h a = T ∧ (∀ i, am_m h a i = G i) ∧ RWS h a l
theorem RWS.cg {h h2 : AH} {a m : Int} (et : ∀ b, a < b → b < a + m → am_t h2 b = am_t h b ∧ am_l h2 b = am_l h b ∧ ∀ i, am_m h2 b i = am_m h b i) : ∀ {l}, okO m l = true → RWS h a l → RWS h2 a l
  | [], _, _ => trivial
  | e :: l, ho, x => by
    have ho' : (decide (0 < e.1 ∧ e.1 < m) && okO m l) = true := ho
    rw [Bool.and_eq_true] at ho'
    have h1 := of_decide_eq_true ho'.1
    obtain ⟨⟨x1, x2, x3⟩, x4⟩ := x
    obtain ⟨y1, y2, y3⟩ := et (a + e.1) (by omega) (by omega)
    exact ⟨⟨y1.trans x1, y2.trans x2, fun i => (y3 i).trans (x3 i)⟩, RWS.cg et ho'.2 x4⟩
section
variable {h0 h : AH} {a m f v L n : Int} {T tg : Nat} {G : Int → Int} {l : List (Int × Nat × Int)}
theorem CU3.i0 (ha : am_n h0 = a) : CU3 h0 (am_a h0 T n (am_df T)) a 1 T (am_df T) [] :=
  ⟨Fr.rf.a, ha, by rw [am_n_a, ha], by rw [am_t_a, if_pos ha.symm], fun i => by rw [am_m_a, if_pos ha.symm], trivial⟩
theorem CU3.go (c : CU3 h0 h a m T G l) (hm : 0 < m) (ok : okO m l = true) : CU3 h0 (am_w (am_a h tg L (fun _ => 0)) a f (am_n h)) a (m + 1) T (fun i => if i = f then a + m else G i) ((m, tg, L) :: l) := by
  obtain ⟨fr, na, n, t, g, r⟩ := c
  refine ⟨fr.a.nw (by omega), na, by show am_n h + 1 = _; omega, ?_, fun i => ?_, ⟨⟨?_, ?_, fun i => ?_⟩, RWS.cg (h := h) (m := m) (fun b z1 z2 => ?_) ok r⟩⟩
  · rw [am_t_w, am_t_a, if_neg (by omega), t]
  · show _ = if i = f then a + m else G i
    rw [am_m_w]
    by_cases y : i = f
    · rw [if_pos ⟨rfl, y⟩, if_pos y]
      exact n
    · rw [if_neg (fun w => y w.2), if_neg y, am_m_a, if_neg (by omega), g]
  · rw [am_t_w, am_t_a, if_pos n.symm]
  · rw [am_l_w, am_l_a, if_pos n.symm]
  · rw [am_m_w, if_neg (by show ¬ (a + m = a ∧ _); omega), am_m_a, if_pos n.symm]
  · rw [am_t_w, am_l_w, am_t_a, am_l_a, if_neg (by omega), if_neg (by omega)]
    refine ⟨rfl, rfl, fun i => ?_⟩
    rw [am_m_w, if_neg (by omega), am_m_a, if_neg (by omega)]
theorem CU3.set (c : CU3 h0 h a m T G l) (hm : 0 < m) (ok : okO m l = true) : CU3 h0 (am_w h a f v) a m T (fun i => if i = f then v else G i) l := by
  obtain ⟨fr, na, n, t, g, r⟩ := c
  refine ⟨fr.nw (by omega), na, n, t, fun i => ?_, RWS.cg (h := h) (h2 := am_w h a f v) (m := m) (fun b z1 z2 => ⟨rfl, rfl, fun i => ?_⟩) ok r⟩
  · show _ = if i = f then v else G i
    rw [am_m_w]
    by_cases y : i = f
    · rw [if_pos ⟨rfl, y⟩, if_pos y]
    · rw [if_neg (fun w => y w.2), if_neg y, g]
  · rw [am_m_w, if_neg (by omega)]
theorem CU3.fr (c : CU3 h0 h a m T G l) (a0 : 0 ≤ a) (hm : 0 ≤ m := by decide) : am_fr h := Or.inr (by have := c.2.2.1; omega)
theorem CU3.tt (c : CU3 h0 h a m T G l) (hm : 0 < m) : am_t (am_a h tg L (fun _ => 0)) a = T := by
  have := c.2.2.1
  rw [am_t_a, if_neg (by omega)]
  exact c.2.2.2.1
end
theorem n84 {d : Nat} {h0 : AH} {a  : Int} {K : AK} (ha : am_n h0 = a) (a0 : 0 ≤ a) (k : ∀ h2, CU3 h0 h2 a 10 4 ((fun i => if i = 14 then a + 9 else ((fun i => if i = 13 then a + 8 else ((fun i => if i = 12 then a + 7 else ((fun i => if i = 11 then a + 6 else ((fun i => if i = 10 then a + 5 else ((fun i => if i = 9 then a + 4 else ((fun i => if i = 8 then a + 3 else ((fun i => if i = 7 then a + 2 else ((fun i => if i = 6 then a + 1 else ((fun i => if i = 4 then 100 else (am_df 4) i)) i)) i)) i)) i)) i)) i)) i)) i)) i)) ((9, 20, 400) :: (8, 20, 400) :: (7, 20, 12) :: (6, 20, 12) :: (5, 20, 12) :: (4, 20, 12) :: (3, 20, 12) :: (2, 20, 12) :: (1, 20, 4) :: []) → K 0 0 h2) : am_call d 84 [(2, a)] (am_a h0 4 15 (am_df 4)) K := by
  have c0 : CU3 h0 (am_a h0 4 15 (am_df 4)) a 1 4 (am_df 4) [] := CU3.i0 ha
  refine v84 ⟨a0, c0.2.2.2.1, ?_⟩
  have c1 := c0.set (f := 4) (v := 100) (by decide) (by decide)
  refine v84_10 ⟨⟨⟨by decide, c1.fr a0⟩, by decide, by decide⟩, c1.tt (by decide), ?_⟩
  have c2 := c1.go (f := 6) (tg := 20) (L := 4) (by decide) (by decide)
  refine v84_17 ⟨⟨⟨by decide, c2.fr a0⟩, by decide, by decide⟩, c2.tt (by decide), ?_⟩
  have c3 := c2.go (f := 7) (tg := 20) (L := 12) (by decide) (by decide)
  refine v84_25 ⟨⟨⟨by decide, c3.fr a0⟩, by decide, by decide⟩, c3.tt (by decide), ?_⟩
  have c4 := c3.go (f := 8) (tg := 20) (L := 12) (by decide) (by decide)
  refine v84_33 ⟨⟨⟨by decide, c4.fr a0⟩, by decide, by decide⟩, c4.tt (by decide), ?_⟩
  have c5 := c4.go (f := 9) (tg := 20) (L := 12) (by decide) (by decide)
  refine v84_41 ⟨⟨⟨by decide, c5.fr a0⟩, by decide, by decide⟩, c5.tt (by decide), ?_⟩
  have c6 := c5.go (f := 10) (tg := 20) (L := 12) (by decide) (by decide)
  refine v84_49 ⟨⟨⟨by decide, c6.fr a0⟩, by decide, by decide⟩, c6.tt (by decide), ?_⟩
  have c7 := c6.go (f := 11) (tg := 20) (L := 12) (by decide) (by decide)
  refine v84_57 ⟨⟨⟨by decide, c7.fr a0⟩, by decide, by decide⟩, c7.tt (by decide), ?_⟩
  have c8 := c7.go (f := 12) (tg := 20) (L := 12) (by decide) (by decide)
  refine v84_65 ⟨⟨⟨by decide, c8.fr a0⟩, by decide, by decide⟩, c8.tt (by decide), ?_⟩
  have c9 := c8.go (f := 13) (tg := 20) (L := 400) (by decide) (by decide)
  refine v84_74 ⟨⟨⟨by decide, c9.fr a0⟩, by decide, by decide⟩, c9.tt (by decide), ?_⟩
  have c10 := c9.go (f := 14) (tg := 20) (L := 400) (by decide) (by decide)
  exact v84_83 (k _ c10)
theorem n27 {d : Nat} {h0 : AH} {a l1 l2 : Int} {K : AK} (ha : am_n h0 = a) (a0 : 0 ≤ a) (k : ∀ h2, CU3 h0 h2 a 3 2 ((fun i => if i = 4 then l2 else ((fun i => if i = 3 then l1 else ((fun i => if i = 1 then a + 2 else ((fun i => if i = 0 then a + 1 else (am_df 2) i)) i)) i)) i)) ((2, 20, 401) :: (1, 20, 401) :: []) → K 0 0 h2) : am_call d 27 [(2, a), (2, l1), (2, l2)] (am_a h0 2 5 (am_df 2)) K := by
  have c0 : CU3 h0 (am_a h0 2 5 (am_df 2)) a 1 2 (am_df 2) [] := CU3.i0 ha
  refine v27 ⟨a0, ⟨⟨by decide, c0.fr a0⟩, by decide, by decide⟩, c0.tt (by decide), ?_⟩
  have c1 := c0.go (f := 0) (tg := 20) (L := 401) (by decide) (by decide)
  refine v27_13 ⟨⟨⟨by decide, c1.fr a0⟩, by decide, by decide⟩, c1.tt (by decide), ?_⟩
  have c2 := c1.go (f := 1) (tg := 20) (L := 401) (by decide) (by decide)
  refine v27_22 ⟨c2.2.2.2.1, ?_⟩
  have c3 := c2.set (f := 3) (v := l1) (by decide) (by decide)
  refine v27_27 ⟨c3.2.2.2.1, ?_⟩
  have c4 := c3.set (f := 4) (v := l2) (by decide) (by decide)
  exact v27_32 (k _ c4)
theorem n13 {d : Nat} {h0 : AH} {a l1 l2 : Int} {K : AK} (ha : am_n h0 = a) (a0 : 0 ≤ a) (k : ∀ h2, CU3 h0 h2 a 5 1 ((fun i => if i = 2 then l2 else ((fun i => if i = 1 then l1 else ((fun i => if i = 6 then a + 4 else ((fun i => if i = 5 then a + 3 else ((fun i => if i = 4 then a + 2 else ((fun i => if i = 3 then a + 1 else (am_df 1) i)) i)) i)) i)) i)) i)) ((4, 20, 401) :: (3, 22, 12) :: (2, 22, 12) :: (1, 22, 4) :: []) → K 0 0 h2) : am_call d 13 [(2, a), (2, l1), (2, l2)] (am_a h0 1 7 (am_df 1)) K := by
  have c0 : CU3 h0 (am_a h0 1 7 (am_df 1)) a 1 1 (am_df 1) [] := CU3.i0 ha
  refine v13 ⟨a0, ⟨⟨by decide, c0.fr a0⟩, by decide, by decide⟩, c0.tt (by decide), ?_⟩
  have c1 := c0.go (f := 3) (tg := 22) (L := 4) (by decide) (by decide)
  refine v13_11 ⟨⟨⟨by decide, c1.fr a0⟩, by decide, by decide⟩, c1.tt (by decide), ?_⟩
  have c2 := c1.go (f := 4) (tg := 22) (L := 12) (by decide) (by decide)
  refine v13_19 ⟨⟨⟨by decide, c2.fr a0⟩, by decide, by decide⟩, c2.tt (by decide), ?_⟩
  have c3 := c2.go (f := 5) (tg := 22) (L := 12) (by decide) (by decide)
  refine v13_27 ⟨⟨⟨by decide, c3.fr a0⟩, by decide, by decide⟩, c3.tt (by decide), ?_⟩
  have c4 := c3.go (f := 6) (tg := 20) (L := 401) (by decide) (by decide)
  refine v13_36 ⟨c4.2.2.2.1, ?_⟩
  have c5 := c4.set (f := 1) (v := l1) (by decide) (by decide)
  refine v13_41 ⟨c5.2.2.2.1, ?_⟩
  have c6 := c5.set (f := 2) (v := l2) (by decide) (by decide)
  exact v13_46 (k _ c6)
theorem n46 {d : Nat} {h0 : AH} {a q : Int} {K : AK} (ha : am_n h0 = a) (a0 : 0 ≤ a) (hq : 0 ≤ q ∧ q < a) (tq : am_t h0 q = 4) (k : ∀ h2, CU3 h0 h2 a 9 3 ((fun i => if i = 1 then am_m h0 q 4 else ((fun i => if i = 5 then q else ((fun i => if i = 13 then a + 8 else ((fun i => if i = 12 then a + 7 else ((fun i => if i = 11 then a + 6 else ((fun i => if i = 10 then a + 5 else ((fun i => if i = 9 then a + 4 else ((fun i => if i = 8 then a + 3 else ((fun i => if i = 4 then a + 2 else ((fun i => if i = 3 then a + 1 else ((fun i => if i = 2 then (-1) else (am_df 3) i)) i)) i)) i)) i)) i)) i)) i)) i)) i)) i)) ((8, 20, 400) :: (7, 20, 4) :: (6, 20, 12) :: (5, 20, 12) :: (4, 20, 12) :: (3, 20, 12) :: (2, 20, 12) :: (1, 20, 12) :: []) → K 0 0 h2) : am_call d 46 [(2, a), (2, q)] (am_a h0 3 15 (am_df 3)) K := by
  have c0 : CU3 h0 (am_a h0 3 15 (am_df 3)) a 1 3 (am_df 3) [] := CU3.i0 ha
  refine v46 ⟨a0, c0.2.2.2.1, ?_⟩
  have c1 := c0.set (f := 2) (v := (-1)) (by decide) (by decide)
  refine v46_9 ⟨⟨⟨by decide, c1.fr a0⟩, by decide, by decide⟩, c1.tt (by decide), ?_⟩
  have c2 := c1.go (f := 3) (tg := 20) (L := 12) (by decide) (by decide)
  refine v46_17 ⟨⟨⟨by decide, c2.fr a0⟩, by decide, by decide⟩, c2.tt (by decide), ?_⟩
  have c3 := c2.go (f := 4) (tg := 20) (L := 12) (by decide) (by decide)
  refine v46_25 ⟨⟨⟨by decide, c3.fr a0⟩, by decide, by decide⟩, c3.tt (by decide), ?_⟩
  have c4 := c3.go (f := 8) (tg := 20) (L := 12) (by decide) (by decide)
  refine v46_33 ⟨⟨⟨by decide, c4.fr a0⟩, by decide, by decide⟩, c4.tt (by decide), ?_⟩
  have c5 := c4.go (f := 9) (tg := 20) (L := 12) (by decide) (by decide)
  refine v46_41 ⟨⟨⟨by decide, c5.fr a0⟩, by decide, by decide⟩, c5.tt (by decide), ?_⟩
  have c6 := c5.go (f := 10) (tg := 20) (L := 12) (by decide) (by decide)
  refine v46_49 ⟨⟨⟨by decide, c6.fr a0⟩, by decide, by decide⟩, c6.tt (by decide), ?_⟩
  have c7 := c6.go (f := 11) (tg := 20) (L := 12) (by decide) (by decide)
  refine v46_57 ⟨⟨⟨by decide, c7.fr a0⟩, by decide, by decide⟩, c7.tt (by decide), ?_⟩
  have c8 := c7.go (f := 12) (tg := 20) (L := 4) (by decide) (by decide)
  refine v46_64 ⟨⟨⟨by decide, c8.fr a0⟩, by decide, by decide⟩, c8.tt (by decide), ?_⟩
  have c9 := c8.go (f := 13) (tg := 20) (L := 400) (by decide) (by decide)
  refine v46_73 ⟨c9.2.2.2.1, ?_⟩
  have c10 := c9.set (f := 5) (v := q) (by decide) (by decide)
  have eq4 := c10.1.2.2.2.2 q (by omega) (by omega) 4
  have etq := (c10.1.2.2.2.1 q (by omega)).1.trans tq
  refine v46_78 ⟨etq, c10.2.2.2.1, ?_⟩
  rw [eq4]
  exact v46_86 (k _ (c10.set (f := 1) (v := am_m h0 q 4) (by decide) (by decide)))