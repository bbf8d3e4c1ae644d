/-! ===== the grammar on tokens that stand somewhere ===== -/
/-- kinds from a place on -/
def KD (kd : Nat → Int) : Nat → List Int → Prop
  | _, [] => True
  | i, x :: r => kd i = x ∧ KD kd (i + 1) r
section
variable {kd : Nat → Int} {i j k : Nat} {lv : Option (GF × GF)}
theorem tk_ok {c ro : Int} (h : kd i = c) : tk kd c ro i = .inr (i + 1, [], [ro]) := if_pos h
theorem tkL_ok {c ro : Int} (h : kd i = c) : tkL kd c ro i = .inr (i + 1, [], [ro]) := if_pos h
theorem bnd_ok {r : PR} {f : GF} {s s2 : List Op} {t t2 : List Int} (h : r = .inr (j, s, t)) (h2 : f j = .inr (k, s2, t2)) : bnd r f = .inr (k, s ++ s2, t ++ t2) := by
  rw [h]
  unfold bnd
  dsimp only
  rw [h2]
theorem bndL_ok {r : LR} {f : LF} {s s2 : List (Nat × List Op)} {t t2 : List Int} (h : r = .inr (j, s, t)) (h2 : f j = .inr (k, s2, t2)) : bndL r f = .inr (k, s ++ s2, t ++ t2) := by
  rw [h]
  unfold bndL
  dsimp only
  rw [h2]
theorem nm_ok {ro c : Int} (h : kd i = 256) : nm kd ro c i = .inr (i + 1, [(c, (i : Int), 0)], [ro]) := if_pos h
theorem lp_end {item : GF} {a ca b cb : Int} {n : Nat} (h1 : ¬ kd i = a) (h2 : ¬ kd i = b) : gLp kd item a ca b cb (n + 1) i = .inr (i, [], []) := by
  show (if kd i = a then _ else if kd i = b then _ else _) = _
  rw [if_neg h1, if_neg h2]
theorem lp_a {item : GF} {a ca b cb : Int} {n : Nat} {s s2 : List Op} {t t2 : List Int} (h1 : kd i = a) (h2 : item (i + 1) = .inr (j, s, t)) (h3 : gLp kd item a ca b cb n j = .inr (k, s2, t2)) : gLp kd item a ca b cb (n + 1) i = .inr (k, s ++ (ca, 0, 0) :: s2, 0 :: (t ++ t2)) := by
  show (if kd i = a then _ else _) = _
  rw [if_pos h1]
  have e1 := bnd_ok (r := em (ca, 0, 0) j) (f := gLp kd item a ca b cb n) rfl h3
  have e2 := bnd_ok (f := fun i => bnd (em (ca, 0, 0) i) (gLp kd item a ca b cb n)) h2 e1
  have e3 := bnd_ok (r := tk kd a 0 i) (f := fun i => bnd (item i) fun i => bnd (em (ca, 0, 0) i) (gLp kd item a ca b cb n)) (tk_ok h1) e2
  exact e3
theorem lp_b {item : GF} {a ca b cb : Int} {n : Nat} {s s2 : List Op} {t t2 : List Int} (h0 : ¬ kd i = a) (h1 : kd i = b) (h2 : item (i + 1) = .inr (j, s, t)) (h3 : gLp kd item a ca b cb n j = .inr (k, s2, t2)) : gLp kd item a ca b cb (n + 1) i = .inr (k, s ++ (cb, 0, 0) :: s2, 0 :: (t ++ t2)) := by
  show (if kd i = a then _ else if kd i = b then _ else _) = _
  rw [if_neg h0, if_pos h1]
  have e1 := bnd_ok (r := em (cb, 0, 0) j) (f := gLp kd item a ca b cb n) rfl h3
  have e2 := bnd_ok (f := fun i => bnd (em (cb, 0, 0) i) (gLp kd item a ca b cb n)) h2 e1
  have e3 := bnd_ok (r := tk kd b 0 i) (f := fun i => bnd (item i) fun i => bnd (em (cb, 0, 0) i) (gLp kd item a ca b cb n)) (tk_ok h1) e2
  exact e3
/-- one, and what goes on -/
theorem li_ok {item : GF} {a ca b cb : Int} {s s2 : List Op} {t t2 : List Int} (h1 : item i = .inr (j, s, t)) (h2 : gLp kd item a ca b cb (399 + 1) j = .inr (k, s2, t2)) : gList kd item a ca b cb i = .inr (k, s ++ s2, t ++ t2) := bnd_ok h1 h2
theorem li_1 {item : GF} {a ca b cb : Int} {s : List Op} {t : List Int} (h1 : item i = .inr (j, s, t)) (n1 : ¬ kd j = a) (n2 : ¬ kd j = b) : gList kd item a ca b cb i = .inr (j, s, t) := by
  have := li_ok (a := a) (ca := ca) (b := b) (cb := cb) h1 (lp_end n1 n2)
  rw [List.append_nil, List.append_nil] at this
  exact this
/-- no sign of a sum or a product -/
def NS (x : Int) : Prop := ¬ x = 42 ∧ ¬ x = 47 ∧ ¬ x = 43 ∧ ¬ x = 45
theorem pr_1 {v : GF} {s : List Op} {t : List Int} (h : v i = .inr (j, s, t)) (n1 : ¬ kd j = 42) (n2 : ¬ kd j = 47) : gPrd kd v i = .inr (j, s, t) := li_1 h n1 n2
theorem su_1 {v : GF} {s : List Op} {t : List Int} (h : v i = .inr (j, s, t)) (n : NS (kd j)) : gSum kd v i = .inr (j, s, t) := li_1 (pr_1 h n.1 n.2.1) n.2.2.1 n.2.2.2
theorem va_num (h : kd i = 257) : gVal kd lv i = .inr (i + 1, [(1, (i : Int), 0)], [14]) := by
  unfold gVal
  rw [h]
  rfl
theorem va_year (h : kd i = 311) : gVal kd lv i = .inr (i + 1, [(2, 0, 0)], [0]) := by
  have : gVal kd lv i = bnd (tk kd 311 0 i) (em (2, 0, 0)) := by
    unfold gVal
    rw [h]
    rfl
  rw [this, bnd_ok (tk_ok h) rfl]
  rfl
theorem va_pot (h : kd i = 312) : gVal kd lv i = .inr (i + 1, [(3, 0, 0)], [0]) := by
  have : gVal kd lv i = bnd (tk kd 312 0 i) (em (3, 0, 0)) := by
    unfold gVal
    rw [h]
    rfl
  rw [this, bnd_ok (tk_ok h) rfl]
  rfl
theorem va_cost (h : kd i = 303) (h2 : kd (i + 1) = 256) : gVal kd lv i = .inr (i + 1 + 1, [(4, ((i + 1 : Nat) : Int), 0)], [0, 12]) := by
  have : gVal kd lv i = bnd (tk kd 303 0 i) (nm kd 12 4) := by
    unfold gVal
    rw [h]
    rfl
  rw [this, bnd_ok (tk_ok h) (nm_ok h2)]
  rfl
theorem va_fans (h : kd i = 314) (h2 : kd (i + 1) = 256) : gVal kd lv i = .inr (i + 1 + 1, [(5, ((i + 1 : Nat) : Int), 0)], [0, 12]) := by
  have : gVal kd lv i = bnd (tk kd 314 0 i) (nm kd 12 5) := by
    unfold gVal
    rw [h]
    rfl
  rw [this, bnd_ok (tk_ok h) (nm_ok h2)]
  rfl
theorem va_purse (h : kd i = 313) (h2 : kd (i + 1) = 256) : gVal kd lv i = .inr (i + 1 + 1, [(6, ((i + 1 : Nat) : Int), 0)], [0, 13]) := by
  have : gVal kd lv i = bnd (tk kd 313 0 i) (nm kd 13 6) := by
    unfold gVal
    rw [h]
    rfl
  rw [this, bnd_ok (tk_ok h) (nm_ok h2)]
  rfl
theorem va_pleased (h : kd i = 316) (h2 : kd (i + 1) = 256) : gVal kd lv i = .inr (i + 1 + 1, [(7, ((i + 1 : Nat) : Int), 0)], [0, 13]) := by
  have : gVal kd lv i = bnd (tk kd 316 0 i) (nm kd 13 7) := by
    unfold gVal
    rw [h]
    rfl
  rw [this, bnd_ok (tk_ok h) (nm_ok h2)]
  rfl
/-- min ( pot , number ) -/
theorem va_min {n : Nat} (h0 : kd i = 320) (h1 : kd (i + 1) = 40) (h2 : kd (i + 1 + 1) = 312) (h3 : kd (i + 1 + 1 + 1) = 44) (h4 : kd (i + 1 + 1 + 1 + 1) = 257) (h5 : kd (i + 1 + 1 + 1 + 1 + 1) = 41) : gVal kd (gLv kd (n + 1)) i = .inr (i + 1 + 1 + 1 + 1 + 1 + 1, [(3, 0, 0), (1, ((i + 1 + 1 + 1 + 1 : Nat) : Int), 0), (16, 0, 0)], [0, 0, 0, 0, 14, 0]) := by
  have : gVal kd (gLv kd (n + 1)) i = bnd (tk kd 320 0 i) (fun i => bnd (gPair kd (gLv kd (n + 1)) i) (em (16, 0, 0))) := by
    unfold gVal
    rw [h0]
    rfl
  rw [this]
  have s1 : gSum kd (gVal kd (gLv kd n)) (i + 1 + 1) = .inr (i + 1 + 1 + 1, [(3, 0, 0)], [0]) := su_1 (va_pot h2) (by rw [h3]; unfold NS; decide)
  have s2 : gSum kd (gVal kd (gLv kd n)) (i + 1 + 1 + 1 + 1) = .inr (i + 1 + 1 + 1 + 1 + 1, [(1, ((i + 1 + 1 + 1 + 1 : Nat) : Int), 0)], [14]) := su_1 (va_num h4) (by rw [h5]; unfold NS; decide)
  have p1 : gPair kd (gLv kd (n + 1)) (i + 1) = .inr (i + 1 + 1 + 1 + 1 + 1 + 1, [(3, 0, 0), (1, ((i + 1 + 1 + 1 + 1 : Nat) : Int), 0)], [0, 0, 0, 14, 0]) := by
    have e1 := bnd_ok (f := tk kd 41 0) s2 (tk_ok h5)
    have e2 := bnd_ok (f := fun i => bnd (gSum kd (gVal kd (gLv kd n)) i) (tk kd 41 0)) (tk_ok (ro := 0) h3) e1
    have e3 := bnd_ok (f := fun i => bnd (tk kd 44 0 i) fun i => bnd (gSum kd (gVal kd (gLv kd n)) i) (tk kd 41 0)) s1 e2
    have e4 := bnd_ok (f := fun i => bnd (gSum kd (gVal kd (gLv kd n)) i) fun i => bnd (tk kd 44 0 i) fun i => bnd (gSum kd (gVal kd (gLv kd n)) i) (tk kd 41 0)) (tk_ok (ro := 0) h1) e3
    exact e4
  have q := bnd_ok (f := em (16, 0, 0)) p1 rfl
  exact bnd_ok (tk_ok h0) q
/-- a comparison -/
theorem cm_ok {su : GF} {c : Int} {s s2 : List Op} {t t2 : List Int} (h1 : su i = .inr (j, s, t)) (hc : kd j = c) (hn : ¬ gCc c = 0) (h2 : su (j + 1) = .inr (k, s2, t2)) : gCmp kd su i = .inr (k, s ++ (s2 ++ [(gCc c, 0, 0)]), t ++ 0 :: t2) := by
  have e1 := bnd_ok (f := em (gCc c, 0, 0)) h2 rfl
  have e2 := bnd_ok (f := fun j => bnd (su j) (em (gCc c, 0, 0))) (tk_ok (ro := 0) hc) e1
  have e3 : (fun i => if gCc (kd i) = 0 then .inl i else bnd (tk kd (kd i) 0 i) fun j => bnd (su j) (em (gCc (kd i), 0, 0))) j = (.inr (k, [] ++ (s2 ++ [(gCc c, 0, 0)]), [0] ++ (t2 ++ [])) : PR) := by
    show (if gCc (kd j) = 0 then _ else _) = _
    rw [hc, if_neg hn]
    exact e2
  have e4 := bnd_ok (f := fun i => if gCc (kd i) = 0 then .inl i else bnd (tk kd (kd i) 0 i) fun j => bnd (su j) (em (gCc (kd i), 0, 0))) h1 e3
  rw [List.append_nil] at e4
  exact e4
theorem sn_cmp {su : GF} {lt : Option (GF × GF)} (h : ¬ kd i = 91 ∧ ¬ kd i = 307 ∧ ¬ kd i = 315 ∧ ¬ kd i = 317) : gSng kd su lt i = gCmp kd su i := by
  unfold gSng
  rw [if_neg h.1, if_neg h.2.1, if_neg h.2.2.1, if_neg h.2.2.2]
theorem sn_built {su : GF} {lt : Option (GF × GF)} (h : kd i = 315) (h2 : kd (i + 1) = 256) : gSng kd su lt i = .inr (i + 1 + 1, [(8, ((i + 1 : Nat) : Int), 0)], [0, 12]) := by
  have : gSng kd su lt i = bnd (tk kd 315 0 i) (nm kd 12 8) := by
    unfold gSng
    rw [h]
    rfl
  rw [this, bnd_ok (tk_ok h) (nm_ok h2)]
  rfl
theorem sn_likes {su : GF} {lt : Option (GF × GF)} (h : kd i = 307) (h2 : kd (i + 1) = 256) (h3 : kd (i + 1 + 1) = 256) : gSng kd su lt i = .inr (i + 1 + 2, [(11, ((i + 1 : Nat) : Int), ((i + 1 + 1 : Nat) : Int))], [0, 13, 12]) := by
  have : gSng kd su lt i = bnd (tk kd 307 0 i) (lk kd) := by
    unfold gSng
    rw [h]
    rfl
  have l : lk kd (i + 1) = .inr (i + 1 + 2, [(11, ((i + 1 : Nat) : Int), ((i + 1 + 1 : Nat) : Int))], [13, 12]) := by
    unfold lk
    rw [if_pos h2, if_pos h3]
  rw [this, bnd_ok (tk_ok h) l]
  rfl
theorem sn_not {su : GF} {n : Nat} {s : List Op} {t : List Int} (h : kd i = 317) (h2 : gSng kd (gSum kd (gVal kd (gLv kd n))) (gLt kd n) (i + 1) = .inr (j, s, t)) : gSng kd su (gLt kd (n + 1)) i = .inr (j, s ++ [(10, 0, 0)], 0 :: t) := by
  have : gSng kd su (gLt kd (n + 1)) i = bnd (tk kd 317 0 i) fun i => bnd (gSng kd (gSum kd (gVal kd (gLv kd n))) (gLt kd n) i) (em (10, 0, 0)) := by
    unfold gSng
    rw [h]
    rfl
  have e1 := bnd_ok (f := em (10, 0, 0)) h2 rfl
  rw [this, bnd_ok (tk_ok h) e1]
  show (Sum.inr (j, [] ++ (s ++ [(10, 0, 0)]), [0] ++ (t ++ [])) : PR) = _
  rw [List.append_nil]
  rfl
theorem sn_bra {su : GF} {n : Nat} {s : List Op} {t : List Int} (h : kd i = 91) (h2 : gTst kd (gSng kd (gSum kd (gVal kd (gLv kd n))) (gLt kd n)) (i + 1) = .inr (j, s, t)) (h3 : kd j = 93) : gSng kd su (gLt kd (n + 1)) i = .inr (j + 1, s, 0 :: (t ++ [0])) := by
  have : gSng kd su (gLt kd (n + 1)) i = bnd (tk kd 91 0 i) fun i => bnd (gTst kd (gSng kd (gSum kd (gVal kd (gLv kd n))) (gLt kd n)) i) (tk kd 93 0) := by
    unfold gSng
    rw [h]
    rfl
  have e1 := bnd_ok (f := tk kd 93 0) h2 (tk_ok h3)
  rw [this, bnd_ok (tk_ok h) e1]
  show (Sum.inr (j + 1, [] ++ (s ++ []), [0] ++ (t ++ [0])) : PR) = _
  rw [List.append_nil]
  rfl
/-- one single as a test -/
theorem bt_1 {g : GF} {s : List Op} {t : List Int} (h : g i = .inr (j, s, t)) (n : ¬ kd j = 318) : gBth kd g i = .inr (j, s, t) := li_1 h n n
theorem ts_1 {g : GF} {s : List Op} {t : List Int} (h : g i = .inr (j, s, t)) (n : ¬ kd j = 318 ∧ ¬ kd j = 319) : gTst kd g i = .inr (j, s, t) := li_1 (bt_1 h n.1) n.2 n.2
end
/-! ===== the tests that the law writes, read by the grammar (printed by gen_tests.py) ===== -/
theorem test0 {kd : Nat → Int} {i : Nat} (h : KD kd i [311, 47, 257, 42, 257, 61, 311, 59]) : gT kd 8 i = .inr (i + 1 + 1 + 1 + 1 + 1 + 1 + 1, [(2, 0, 0), (1, ((i + 1 + 1 : Nat) : Int), 0), (15, 0, 0), (1, ((i + 1 + 1 + 1 + 1 : Nat) : Int), 0), (14, 0, 0), (2, 0, 0), (20, 0, 0)], [0, 0, 14, 0, 14, 0, 0]) := by
  obtain ⟨k0, k1, k2, k3, k4, k5, k6, k7, -⟩ := h
  have a1 : gPrd kd (gVal kd (gLv kd 8)) i = .inr (i + 1 + 1 + 1 + 1 + 1, [(2, 0, 0), (1, ((i + 1 + 1 : Nat) : Int), 0), (15, 0, 0), (1, ((i + 1 + 1 + 1 + 1 : Nat) : Int), 0), (14, 0, 0)], [0, 0, 14, 0, 14]) :=
    li_ok (va_year k0) (lp_b (by rw [k1]; decide) k1 (va_num k2) (lp_a k3 (va_num k4) (lp_end (n := 397) (by rw [k5]; decide) (by rw [k5]; decide))))
  have a2 : gS kd 8 i = .inr (i + 1 + 1 + 1 + 1 + 1, [(2, 0, 0), (1, ((i + 1 + 1 : Nat) : Int), 0), (15, 0, 0), (1, ((i + 1 + 1 + 1 + 1 : Nat) : Int), 0), (14, 0, 0)], [0, 0, 14, 0, 14]) := li_1 a1 (by rw [k5]; decide) (by rw [k5]; decide)
  have a3 : gS kd 8 (i + 1 + 1 + 1 + 1 + 1 + 1) = .inr (i + 1 + 1 + 1 + 1 + 1 + 1 + 1, [(2, 0, 0)], [0]) := su_1 (va_year k6) (by rw [k7]; unfold NS; decide)
  have a4 := cm_ok (c := 61) a2 k5 (by decide) a3
  exact ts_1 ((sn_cmp (by rw [k0]; decide)).trans a4) (by rw [k7]; decide)
theorem test1 {kd : Nat → Int} {i : Nat} (h : KD kd i [312, 60, 257, 59]) : gT kd 8 i = .inr (i + 1 + 1 + 1, [(3, 0, 0), (1, ((i + 1 + 1 : Nat) : Int), 0), (18, 0, 0)], [0, 0, 14]) := by
  obtain ⟨k0, k1, k2, k3, -⟩ := h
  have a4 := cm_ok (su := gS kd 8) (c := 60) (su_1 (va_pot k0) (by rw [k1]; unfold NS; decide)) k1 (by decide) (su_1 (va_num k2) (by rw [k3]; unfold NS; decide))
  exact ts_1 ((sn_cmp (by rw [k0]; decide)).trans a4) (by rw [k3]; decide)
theorem test2 {kd : Nat → Int} {i : Nat} (h : KD kd i [315, 256, 59]) : gT kd 8 i = .inr (i + 1 + 1, [(8, ((i + 1 : Nat) : Int), 0)], [0, 12]) := by
  obtain ⟨k0, k1, k2, -⟩ := h
  exact ts_1 (sn_built k0 k1) (by rw [k2]; decide)
theorem test3 {kd : Nat → Int} {i : Nat} (h : KD kd i [307, 256, 256, 59]) : gT kd 8 i = .inr (i + 1 + 2, [(11, ((i + 1 : Nat) : Int), ((i + 1 + 1 : Nat) : Int))], [0, 13, 12]) := by
  obtain ⟨k0, k1, k2, k3, -⟩ := h
  exact ts_1 (sn_likes k0 k1 k2) (by rw [show i + 1 + 2 = i + 1 + 1 + 1 by omega, k3]; decide)
theorem test4 {kd : Nat → Int} {i : Nat} (h : KD kd i [303, 256, 62, 257, 42, 257, 59]) : gT kd 8 i = .inr (i + 1 + 1 + 1 + 1 + 1 + 1, [(4, ((i + 1 : Nat) : Int), 0), (1, ((i + 1 + 1 + 1 : Nat) : Int), 0), (1, ((i + 1 + 1 + 1 + 1 + 1 : Nat) : Int), 0), (14, 0, 0), (19, 0, 0)], [0, 12, 0, 14, 0, 14]) := by
  obtain ⟨k0, k1, k2, k3, k4, k5, k6, -⟩ := h
  have a1 : gPrd kd (gVal kd (gLv kd 8)) (i + 1 + 1 + 1) = .inr (i + 1 + 1 + 1 + 1 + 1 + 1, [(1, ((i + 1 + 1 + 1 : Nat) : Int), 0), (1, ((i + 1 + 1 + 1 + 1 + 1 : Nat) : Int), 0), (14, 0, 0)], [14, 0, 14]) :=
    li_ok (va_num k3) (lp_a k4 (va_num k5) (lp_end (n := 398) (by rw [k6]; decide) (by rw [k6]; decide)))
  have a3 : gS kd 8 (i + 1 + 1 + 1) = .inr (i + 1 + 1 + 1 + 1 + 1 + 1, [(1, ((i + 1 + 1 + 1 : Nat) : Int), 0), (1, ((i + 1 + 1 + 1 + 1 + 1 : Nat) : Int), 0), (14, 0, 0)], [14, 0, 14]) := li_1 a1 (by rw [k6]; decide) (by rw [k6]; decide)
  have a4 := cm_ok (su := gS kd 8) (c := 62) (su_1 (va_cost k0 k1) (by rw [k2]; unfold NS; decide)) k2 (by decide) a3
  exact ts_1 ((sn_cmp (by rw [k0]; decide)).trans a4) (by rw [k6]; decide)
theorem test5 {kd : Nat → Int} {i : Nat} (h : KD kd i [317, 314, 256, 259, 257, 59]) : gT kd 8 i = .inr (i + 1 + 1 + 1 + 1 + 1, [(5, ((i + 1 + 1 : Nat) : Int), 0), (1, ((i + 1 + 1 + 1 + 1 : Nat) : Int), 0), (22, 0, 0), (10, 0, 0)], [0, 0, 12, 0, 14]) := by
  obtain ⟨k0, k1, k2, k3, k4, k5, -⟩ := h
  have a4 := cm_ok (su := gS kd 7) (c := 259) (su_1 (va_fans k1 k2) (by rw [k3]; unfold NS; decide)) k3 (by decide) (su_1 (va_num k4) (by rw [k5]; unfold NS; decide))
  exact ts_1 (sn_not (n := 7) k0 ((sn_cmp (by rw [k1]; decide)).trans a4)) (by rw [k5]; decide)
theorem test6 {kd : Nat → Int} {i : Nat} (h : KD kd i [313, 256, 62, 257, 319, 316, 256, 259, 257, 59]) : gT kd 8 i = .inr (i + 1 + 1 + 1 + 1 + 1 + 1 + 1 + 1 + 1, [(6, ((i + 1 : Nat) : Int), 0), (1, ((i + 1 + 1 + 1 : Nat) : Int), 0), (19, 0, 0), (7, ((i + 1 + 1 + 1 + 1 + 1 + 1 : Nat) : Int), 0), (1, ((i + 1 + 1 + 1 + 1 + 1 + 1 + 1 + 1 : Nat) : Int), 0), (22, 0, 0), (24, 0, 0)], [0, 13, 0, 14, 0, 0, 13, 0, 14]) := by
  obtain ⟨k0, k1, k2, k3, k4, k5, k6, k7, k8, k9, -⟩ := h
  have a4 := cm_ok (su := gS kd 8) (c := 62) (su_1 (va_purse k0 k1) (by rw [k2]; unfold NS; decide)) k2 (by decide) (su_1 (va_num k3) (by rw [k4]; unfold NS; decide))
  have a5 := cm_ok (su := gS kd 8) (c := 259) (su_1 (va_pleased k5 k6) (by rw [k7]; unfold NS; decide)) k7 (by decide) (su_1 (va_num k8) (by rw [k9]; unfold NS; decide))
  have b4 : gBth kd (gO kd 8) i = _ := bt_1 ((sn_cmp (by rw [k0]; decide)).trans a4) (by rw [k4]; decide)
  have b5 : gBth kd (gO kd 8) (i + 1 + 1 + 1 + 1 + 1) = _ := bt_1 ((sn_cmp (by rw [k5]; decide)).trans a5) (by rw [k9]; decide)
  exact li_ok b4 (lp_a k4 b5 (lp_end (n := 398) (by rw [k9]; decide) (by rw [k9]; decide)))
theorem test7 {kd : Nat → Int} {i : Nat} (h : KD kd i [320, 40, 312, 44, 257, 41, 45, 311, 60, 257, 318, 91, 311, 62, 257, 319, 317, 315, 256, 93, 59]) : gT kd 8 i = .inr (i + 1 + 1 + 1 + 1 + 1 + 1 + 1 + 1 + 1 + 1 + 1 + 1 + 1 + 1 + 1 + 1 + 1 + 1 + 1 + 1, [(3, 0, 0), (1, ((i + 1 + 1 + 1 + 1 : Nat) : Int), 0), (16, 0, 0), (2, 0, 0), (13, 0, 0), (1, ((i + 1 + 1 + 1 + 1 + 1 + 1 + 1 + 1 + 1 : Nat) : Int), 0), (18, 0, 0), (2, 0, 0), (1, ((i + 1 + 1 + 1 + 1 + 1 + 1 + 1 + 1 + 1 + 1 + 1 + 1 + 1 + 1 : Nat) : Int), 0), (19, 0, 0), (8, ((i + 1 + 1 + 1 + 1 + 1 + 1 + 1 + 1 + 1 + 1 + 1 + 1 + 1 + 1 + 1 + 1 + 1 + 1 : Nat) : Int), 0), (10, 0, 0), (24, 0, 0), (23, 0, 0)], [0, 0, 0, 0, 14, 0, 0, 0, 0, 14, 0, 0, 0, 0, 14, 0, 0, 0, 12, 0]) := by
  obtain ⟨k0, k1, k2, k3, k4, k5, k6, k7, k8, k9, k10, k11, k12, k13, k14, k15, k16, k17, k18, k19, k20, -⟩ := h
  have v0 := va_min (n := 7) k0 k1 k2 k3 k4 k5
  have a1 : gS kd 8 i = .inr (i + 1 + 1 + 1 + 1 + 1 + 1 + 1 + 1, [(3, 0, 0), (1, ((i + 1 + 1 + 1 + 1 : Nat) : Int), 0), (16, 0, 0), (2, 0, 0), (13, 0, 0)], [0, 0, 0, 0, 14, 0, 0, 0]) :=
    li_ok (pr_1 v0 (by rw [k6]; decide) (by rw [k6]; decide)) (lp_b (by rw [k6]; decide) k6 (pr_1 (va_year k7) (by rw [k8]; decide) (by rw [k8]; decide)) (lp_end (n := 398) (by rw [k8]; decide) (by rw [k8]; decide)))
  have a4 := cm_ok (su := gS kd 8) (c := 60) a1 k8 (by decide) (su_1 (va_num k9) (by rw [k10]; unfold NS; decide))
  have s1 : gO kd 8 i = _ := (sn_cmp (by rw [k0]; decide)).trans a4
  have a5 := cm_ok (su := gS kd 7) (c := 62) (su_1 (va_year k12) (by rw [k13]; unfold NS; decide)) k13 (by decide) (su_1 (va_num k14) (by rw [k15]; unfold NS; decide))
  have b5 : gBth kd (gO kd 7) (i + 1 + 1 + 1 + 1 + 1 + 1 + 1 + 1 + 1 + 1 + 1 + 1) = _ := bt_1 ((sn_cmp (by rw [k12]; decide)).trans a5) (by rw [k15]; decide)
  have b6 : gBth kd (gO kd 7) (i + 1 + 1 + 1 + 1 + 1 + 1 + 1 + 1 + 1 + 1 + 1 + 1 + 1 + 1 + 1 + 1) = _ := bt_1 (sn_not (n := 6) k16 (sn_built k17 k18)) (by rw [k19]; decide)
  have t1 : gT kd 7 (i + 1 + 1 + 1 + 1 + 1 + 1 + 1 + 1 + 1 + 1 + 1 + 1) = _ := li_ok b5 (lp_a k15 b6 (lp_end (n := 398) (by rw [k19]; decide) (by rw [k19]; decide)))
  have s2 : gO kd 8 (i + 1 + 1 + 1 + 1 + 1 + 1 + 1 + 1 + 1 + 1 + 1) = _ := sn_bra (n := 7) k11 t1 k19
  have b7 : gBth kd (gO kd 8) i = _ := li_ok s1 (lp_a k10 s2 (lp_end (n := 398) (by rw [k20]; decide) (by rw [k20]; decide)))
  exact li_1 b7 (by rw [k20]; decide) (by rw [k20]; decide)
