/-! ===== the tokens' constructor ===== -/
def wi : Nat → Int
  | 0 => 0
  | j + 1 => if s_tc 0 (j : Int) = 32 then wi j + 1 else wi j
def vw (i : Int) : Nat → Int
  | 0 => 0
  | j + 1 => if s_tc 0 (j : Int) = 32 then vw i j else if wi j < 22 ∧ i = wi j then w64 (w64 (vw i j * 37) + s_dg37 (s_tc 0 (j : Int))) else vw i j
theorem wi_rg : ∀ j : Nat, 0 ≤ wi j ∧ wi j ≤ (j : Int)
  | 0 => ⟨Int.le_refl _, Int.le_refl _⟩
  | j + 1 => by
    have := wi_rg j
    show 0 ≤ (if s_tc 0 (j : Int) = 32 then wi j + 1 else wi j) ∧ (if s_tc 0 (j : Int) = 32 then wi j + 1 else wi j) ≤ _
    split <;> omega
theorem tn0 : 0 ≤ am_tn 0 ∧ am_tn 0 < 2000 := by decide +kernel
theorem vw_end : ∀ i : Nat, i < 22 → vw (i : Int) (am_tn 0).toNat = s_kw (i : Int) := by decide +kernel
theorem n89_48 {d : Nat} {h0 hb : AH} {a l1 : Int} {y1 y2 y3 y4 : AV} {nc ns : Nat} {K : AK} (c : CU3 h0 hb a 5 5 ((fun i => if i = 4 then l1 else ((fun i => if i = 3 then a + 4 else ((fun i => if i = 2 then a + 3 else ((fun i => if i = 1 then a + 2 else ((fun i => if i = 0 then a + 1 else (am_df 5) i)) i)) i)) i)) i)) ((4, 22, 22) :: (3, 20, 401) :: (2, 22, 401) :: (1, 20, 401) :: [])) (a0 : 0 ≤ a) (k : ∀ h2, CU3 h0 hb a 5 5 ((fun i => if i = 4 then l1 else ((fun i => if i = 3 then a + 4 else ((fun i => if i = 2 then a + 3 else ((fun i => if i = 1 then a + 2 else ((fun i => if i = 0 then a + 1 else (am_df 5) i)) i)) i)) i)) i)) ((4, 22, 22) :: (3, 20, 401) :: (2, 22, 401) :: (1, 20, 401) :: []) → Fr (a + 4) 1 hb h2 → (∀ i : Nat, i < 22 → am_m h2 (a + 4) (i : Int) = s_kw (i : Int)) → am_n h2 = am_n hb → K 0 0 h2) : WP (d + 3 + 1) 89 (44, [(2, a), y1, y2, y3, y4], [], hb, nc, ns) K := by
  have tn := tn0
  obtain ⟨fr, na, n, tb, g, r⟩ := id c
  have g3 : am_m hb a 3 = a + 4 := (g 3).trans (by simp)
  have t26 : am_t hb (a + 4) = 22 ∧ am_l hb (a + 4) = 22 := ⟨r.1.1, r.1.2.1⟩
  have z26 : ∀ i, am_m hb (a + 4) i = 0 := r.1.2.2
  have H : ∀ (n j : Nat) (h : AH) (y4 : AV), j + n = (am_tn 0).toNat → Fr (a + 4) 1 hb h → (∀ i, am_m h (a + 4) i = vw i j) → am_n h = am_n hb → WP (d + 3 + 1) 89 (48, [(2, a), y1, (0, wi j), (0, (j : Int)), y4], [], h, nc, ns) K := by
    intro n
    induction n with
    | zero =>
      intro j h y4 e f v en
      refine v89_48 (c6 (by omega) (okx (v89_54 ⟨fun z => absurd z (by omega), fun _ => k h c f (fun i hi => ?_) en⟩)))
      rw [v, show j = (am_tn 0).toNat from e]
      exact vw_end i hi
    | succ n ih =>
      intro j h y4 e f v en
      have wr := wi_rg j
      refine v89_48 (c6 (by omega) (okx (v89_54 ⟨fun z => c0 (by omega) z (okx (v89_63 ⟨fun w => ?_, fun w => ⟨fun u => ?_, fun u => ?_⟩⟩)), fun z => absurd (show (j : Int) < am_tn 0 by omega) z⟩)))
      · have := ih (j + 1) h (0, s_tc 0 (j : Int)) (by omega) f (fun i => by
          rw [v]
          show _ = if s_tc 0 (j : Int) = 32 then vw i j else _
          rw [if_pos w]) en
        have ew : wi (j + 1) = wi j + 1 := if_pos w
        rw [ew] at this
        refine v89_107 ?_
        rw [w32_id (x := wi j + 1) (by omega) (by omega), w32_nat (by omega)]
        exact this
      · have ew : wi (j + 1) = wi j := if_neg w
        have ta : am_t h a = 5 := (f.2.2.2.1 a (by omega)).1.trans tb
        have e3 : am_m h a 3 = a + 4 := (f.2.2.2.2 a (by omega) (by omega) 3).trans g3
        have t4 : am_t h (a + 4) = 22 ∧ am_l h (a + 4) = 22 := ⟨(f.2.2.2.1 (a + 4) (by omega)).1.trans t26.1, (f.2.2.2.1 (a + 4) (by omega)).2.trans t26.2⟩
        rw [e3]
        refine ⟨ta, ta, ⟨t4.1, wr.1, by omega⟩, c100 s_tc_rg (okx (v89_104 ⟨⟨t4.1, wr.1, by omega⟩, v89_107 ?_⟩))⟩
        have := ih (j + 1) (am_w h (a + 4) (wi j) (w64 (w64 (am_m h (a + 4) (wi j) * 37) + s_dg37 (s_tc 0 (j : Int))))) (0, s_tc 0 (j : Int)) (by omega) (f.w (by omega) (by omega)) (fun i => by
          show _ = if s_tc 0 (j : Int) = 32 then vw i j else if wi j < 22 ∧ i = wi j then w64 (w64 (vw i j * 37) + s_dg37 (s_tc 0 (j : Int))) else vw i j
          rw [if_neg w, am_m_w]
          by_cases y : i = wi j
          · rw [if_pos ⟨rfl, y⟩, if_pos ⟨u, y⟩, v, y]
          · rw [if_neg (fun q => y q.2), if_neg (fun q => y q.2), v]) en
        rw [ew] at this
        rw [w32_nat (by omega)]
        exact this
      · have := ih (j + 1) h (0, s_tc 0 (j : Int)) (by omega) f (fun i => by
          rw [v]
          show _ = if s_tc 0 (j : Int) = 32 then vw i j else if wi j < 22 ∧ i = wi j then w64 (w64 (vw i j * 37) + s_dg37 (s_tc 0 (j : Int))) else vw i j
          rw [if_neg w, if_neg (fun q => u q.1)]) en
        have ew : wi (j + 1) = wi j := if_neg w
        rw [ew] at this
        refine v89_107 ?_
        rw [w32_nat (by omega)]
        exact this
  exact v89_44 (H _ 0 hb _ (Nat.zero_add _) Fr.rf z26 rfl)
theorem n89 {d : Nat} {h0 : AH} {a l1 : Int} {K : AK} (ha : am_n h0 = a) (a0 : 0 ≤ a) (k : ∀ hb h2, CU3 h0 hb a 5 5 ((fun i => if i = 4 then l1 else ((fun i => if i = 3 then a + 4 else ((fun i => if i = 2 then a + 3 else ((fun i => if i = 1 then a + 2 else ((fun i => if i = 0 then a + 1 else (am_df 5) i)) i)) i)) i)) i)) ((4, 22, 22) :: (3, 20, 401) :: (2, 22, 401) :: (1, 20, 401) :: []) → Fr (a + 4) 1 hb h2 → (∀ i : Nat, i < 22 → am_m h2 (a + 4) (i : Int) = s_kw (i : Int)) → am_n h2 = am_n hb → K 0 0 h2) : am_call (d + 4) 89 [(2, a), (2, l1)] (am_a h0 5 7 (am_df 5)) K := by
  have c0 : CU3 h0 (am_a h0 5 7 (am_df 5)) a 1 5 (am_df 5) [] := CU3.i0 ha
  refine v89 ⟨a0, ⟨⟨by decide, c0.fr a0⟩, by decide, by decide⟩, c0.tt (by decide), ?_⟩
  have c1 := c0.go (f := 0) (tg := 20) (L := 401) (by decide) (by decide)
  refine v89_13 ⟨⟨⟨by decide, c1.fr a0⟩, by decide, by decide⟩, c1.tt (by decide), ?_⟩
  have c2 := c1.go (f := 1) (tg := 22) (L := 401) (by decide) (by decide)
  refine v89_22 ⟨⟨⟨by decide, c2.fr a0⟩, by decide, by decide⟩, c2.tt (by decide), ?_⟩
  have c3 := c2.go (f := 2) (tg := 20) (L := 401) (by decide) (by decide)
  refine v89_31 ⟨⟨⟨by decide, c3.fr a0⟩, by decide, by decide⟩, c3.tt (by decide), ?_⟩
  have c4 := c3.go (f := 3) (tg := 22) (L := 22) (by decide) (by decide)
  refine v89_39 ⟨c4.2.2.2.1, ?_⟩
  have c5 := c4.set (f := 4) (v := l1) (by decide) (by decide)
  exact n89_48 c5 a0 (k _)
