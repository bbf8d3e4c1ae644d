/-! ===== the law's own jury (a Sim at a): the same plan pp and state ss as the class's; its rows lie where A says (0 caps, 1 projects, 2 voters, 3 likes, 4 bans; 5, 6, 7, 8: a project's, voter's, liker's, ban's row); bb: the bans' numbers ===== -/
def SM (h : AH) (a : Int) (A pp ss : TT) (bb : Int → Int → Int) : Prop := (am_t h a = 7) ∧ (am_m h a 0 = ss 0 0) ∧ (am_m h a 1 = ss 2 0) ∧ (am_m h a 2 = ss 3 0) ∧ (am_m h a 3 = ss 1 0) ∧ (am_m h a 4 = A 0 0) ∧ (am_m h a 5 = A 1 0) ∧ (am_m h a 6 = A 2 0) ∧ (am_m h a 7 = A 3 0) ∧ (am_m h a 8 = A 4 0) ∧ (am_m h a 9 = -1) ∧ (am_t h (A 0 0) = 20 ∧ am_l h (A 0 0) = pp 0 0 ∧ ∀ w, 0 ≤ w → w < pp 0 0 → am_m h (A 0 0) w = pp 4 w) ∧ (am_t h (A 1 0) = 24) ∧ (am_l h (A 1 0) = pp 1 0) ∧ (∀ i, 0 ≤ i → i < pp 1 0 → am_m h (A 1 0) i = A 5 i ∧ am_t h (A 5 i) = 20 ∧ am_l h (A 5 i) = 5 ∧ am_m h (A 5 i) 0 = ss 6 i ∧ am_m h (A 5 i) 1 = pp 5 i ∧ am_m h (A 5 i) 2 = pp 6 i ∧ am_m h (A 5 i) 3 = ss 7 i ∧ am_m h (A 5 i) 4 = ss 8 i) ∧ (am_t h (A 2 0) = 24) ∧ (am_l h (A 2 0) = pp 2 0) ∧ (∀ i, 0 ≤ i → i < pp 2 0 → am_m h (A 2 0) i = A 6 i ∧ am_t h (A 6 i) = 20 ∧ am_l h (A 6 i) = 3 ∧ am_m h (A 6 i) 0 = ss 4 i ∧ am_m h (A 6 i) 1 = ss 5 i) ∧ (am_t h (A 3 0) = 25) ∧ (am_l h (A 3 0) = pp 2 0) ∧ (∀ i, 0 ≤ i → i < pp 2 0 → am_m h (A 3 0) i = A 7 i ∧ am_t h (A 7 i) = 23 ∧ am_l h (A 7 i) = pp 1 0 ∧ ∀ j, 0 ≤ j → j < pp 1 0 → am_m h (A 7 i) j = ss 9 (12 * i + j)) ∧ (am_t h (A 4 0) = 24) ∧ (am_l h (A 4 0) = pp 3 0) ∧ (∀ i, 0 ≤ i → i < pp 3 0 → am_m h (A 4 0) i = A 8 i ∧ am_t h (A 8 i) = 20 ∧ am_l h (A 8 i) = 5 ∧ ∀ j, 0 ≤ j → j < 5 → am_m h (A 8 i) j = bb i j) ∧ (∀ i, 0 ≤ i → i < pp 3 0 → (0 ≤ bb i 0 ∧ bb i 0 < pp 1 0) ∧ (0 ≤ bb i 1 ∧ bb i 1 < 8) ∧ (0 ≤ bb i 2 ∧ bb i 2 < 20) ∧ (0 ≤ bb i 3 ∧ bb i 3 < 90) ∧ 0 ≤ bb i 4 ∧ bb i 4 < 42) ∧ (PI pp) ∧ (SI pp ss) ∧ (1 ≤ pp 1 0 ∧ pp 1 0 ≤ 7 ∧ 1 ≤ pp 2 0 ∧ pp 2 0 ≤ 7) ∧ (¬ a = -1 ∧ ¬ A 3 0 = -1 ∧ (∀ i, 0 ≤ i → i < pp 2 0 → ¬ A 7 i = -1 ∧ ¬ A 6 i = -1) ∧ (∀ i, 0 ≤ i → i < pp 1 0 → ¬ A 5 i = -1) ∧ ∀ i, 0 ≤ i → i < pp 3 0 → ¬ A 8 i = -1) ∧ (¬ A 1 0 = -1 ∧ ¬ A 2 0 = -1 ∧ ¬ A 4 0 = -1) ∧ ((a < am_n h ∧ A 0 0 < am_n h ∧ A 1 0 < am_n h ∧ A 2 0 < am_n h ∧ A 3 0 < am_n h ∧ A 4 0 < am_n h) ∧ (∀ i, 0 ≤ i → i < pp 1 0 → A 5 i < am_n h) ∧ (∀ i, 0 ≤ i → i < pp 2 0 → A 6 i < am_n h ∧ A 7 i < am_n h) ∧ ∀ i, 0 ≤ i → i < pp 3 0 → A 8 i < am_n h) ∧ (∀ i j, 0 ≤ i → i < pp 1 0 → 0 ≤ j → j < pp 1 0 → ¬ i = j → ¬ A 5 i = A 5 j) ∧ (∀ i j, 0 ≤ i → i < pp 2 0 → 0 ≤ j → j < pp 2 0 → ¬ i = j → ¬ A 6 i = A 6 j) ∧ (∀ i j, 0 ≤ i → i < pp 2 0 → 0 ≤ j → j < pp 2 0 → ¬ i = j → ¬ A 7 i = A 7 j) ∧ (∀ i j, 0 ≤ i → i < pp 1 0 → 0 ≤ j → j < pp 2 0 → ¬ A 5 i = A 6 j) ∧ ((∀ i, 0 ≤ i → i < pp 1 0 → ¬ A 5 i = A 0 0) ∧ ∀ i, 0 ≤ i → i < pp 2 0 → ¬ A 6 i = A 0 0) ∧ (∀ k, 0 ≤ k → k < pp 3 0 → (∀ i, 0 ≤ i → i < pp 1 0 → ¬ A 5 i = A 8 k) ∧ ∀ i, 0 ≤ i → i < pp 2 0 → ¬ A 6 i = A 8 k)
theorem SM.t {h : AH} {a : Int} {A pp ss : TT} {bb : Int → Int → Int} (x : SM h a A pp ss bb) : am_t h a = 7 := x.1
theorem SM.m0 {h : AH} {a : Int} {A pp ss : TT} {bb : Int → Int → Int} (x : SM h a A pp ss bb) : am_m h a 0 = ss 0 0 := x.2.1
theorem SM.m1 {h : AH} {a : Int} {A pp ss : TT} {bb : Int → Int → Int} (x : SM h a A pp ss bb) : am_m h a 1 = ss 2 0 := x.2.2.1
theorem SM.m2 {h : AH} {a : Int} {A pp ss : TT} {bb : Int → Int → Int} (x : SM h a A pp ss bb) : am_m h a 2 = ss 3 0 := x.2.2.2.1
theorem SM.m3 {h : AH} {a : Int} {A pp ss : TT} {bb : Int → Int → Int} (x : SM h a A pp ss bb) : am_m h a 3 = ss 1 0 := x.2.2.2.2.1
theorem SM.m4 {h : AH} {a : Int} {A pp ss : TT} {bb : Int → Int → Int} (x : SM h a A pp ss bb) : am_m h a 4 = A 0 0 := x.2.2.2.2.2.1
theorem SM.m5 {h : AH} {a : Int} {A pp ss : TT} {bb : Int → Int → Int} (x : SM h a A pp ss bb) : am_m h a 5 = A 1 0 := x.2.2.2.2.2.2.1
theorem SM.m6 {h : AH} {a : Int} {A pp ss : TT} {bb : Int → Int → Int} (x : SM h a A pp ss bb) : am_m h a 6 = A 2 0 := x.2.2.2.2.2.2.2.1
theorem SM.m7 {h : AH} {a : Int} {A pp ss : TT} {bb : Int → Int → Int} (x : SM h a A pp ss bb) : am_m h a 7 = A 3 0 := x.2.2.2.2.2.2.2.2.1
theorem SM.m8 {h : AH} {a : Int} {A pp ss : TT} {bb : Int → Int → Int} (x : SM h a A pp ss bb) : am_m h a 8 = A 4 0 := x.2.2.2.2.2.2.2.2.2.1
theorem SM.m9 {h : AH} {a : Int} {A pp ss : TT} {bb : Int → Int → Int} (x : SM h a A pp ss bb) : am_m h a 9 = -1 := x.2.2.2.2.2.2.2.2.2.2.1
theorem SM.caps {h : AH} {a : Int} {A pp ss : TT} {bb : Int → Int → Int} (x : SM h a A pp ss bb) : am_t h (A 0 0) = 20 ∧ am_l h (A 0 0) = pp 0 0 ∧ ∀ w, 0 ≤ w → w < pp 0 0 → am_m h (A 0 0) w = pp 4 w := x.2.2.2.2.2.2.2.2.2.2.2.1
theorem SM.pt {h : AH} {a : Int} {A pp ss : TT} {bb : Int → Int → Int} (x : SM h a A pp ss bb) : am_t h (A 1 0) = 24 := x.2.2.2.2.2.2.2.2.2.2.2.2.1
theorem SM.pl {h : AH} {a : Int} {A pp ss : TT} {bb : Int → Int → Int} (x : SM h a A pp ss bb) : am_l h (A 1 0) = pp 1 0 := x.2.2.2.2.2.2.2.2.2.2.2.2.2.1
theorem SM.p {h : AH} {a : Int} {A pp ss : TT} {bb : Int → Int → Int} (x : SM h a A pp ss bb) : ∀ i, 0 ≤ i → i < pp 1 0 → am_m h (A 1 0) i = A 5 i ∧ am_t h (A 5 i) = 20 ∧ am_l h (A 5 i) = 5 ∧ am_m h (A 5 i) 0 = ss 6 i ∧ am_m h (A 5 i) 1 = pp 5 i ∧ am_m h (A 5 i) 2 = pp 6 i ∧ am_m h (A 5 i) 3 = ss 7 i ∧ am_m h (A 5 i) 4 = ss 8 i := x.2.2.2.2.2.2.2.2.2.2.2.2.2.2.1
theorem SM.vt {h : AH} {a : Int} {A pp ss : TT} {bb : Int → Int → Int} (x : SM h a A pp ss bb) : am_t h (A 2 0) = 24 := x.2.2.2.2.2.2.2.2.2.2.2.2.2.2.2.1
theorem SM.vl {h : AH} {a : Int} {A pp ss : TT} {bb : Int → Int → Int} (x : SM h a A pp ss bb) : am_l h (A 2 0) = pp 2 0 := x.2.2.2.2.2.2.2.2.2.2.2.2.2.2.2.2.1
theorem SM.v {h : AH} {a : Int} {A pp ss : TT} {bb : Int → Int → Int} (x : SM h a A pp ss bb) : ∀ i, 0 ≤ i → i < pp 2 0 → am_m h (A 2 0) i = A 6 i ∧ am_t h (A 6 i) = 20 ∧ am_l h (A 6 i) = 3 ∧ am_m h (A 6 i) 0 = ss 4 i ∧ am_m h (A 6 i) 1 = ss 5 i := x.2.2.2.2.2.2.2.2.2.2.2.2.2.2.2.2.2.1
theorem SM.lt {h : AH} {a : Int} {A pp ss : TT} {bb : Int → Int → Int} (x : SM h a A pp ss bb) : am_t h (A 3 0) = 25 := x.2.2.2.2.2.2.2.2.2.2.2.2.2.2.2.2.2.2.1
theorem SM.ll {h : AH} {a : Int} {A pp ss : TT} {bb : Int → Int → Int} (x : SM h a A pp ss bb) : am_l h (A 3 0) = pp 2 0 := x.2.2.2.2.2.2.2.2.2.2.2.2.2.2.2.2.2.2.2.1
theorem SM.l {h : AH} {a : Int} {A pp ss : TT} {bb : Int → Int → Int} (x : SM h a A pp ss bb) : ∀ i, 0 ≤ i → i < pp 2 0 → am_m h (A 3 0) i = A 7 i ∧ am_t h (A 7 i) = 23 ∧ am_l h (A 7 i) = pp 1 0 ∧ ∀ j, 0 ≤ j → j < pp 1 0 → am_m h (A 7 i) j = ss 9 (12 * i + j) := x.2.2.2.2.2.2.2.2.2.2.2.2.2.2.2.2.2.2.2.2.1
theorem SM.bt {h : AH} {a : Int} {A pp ss : TT} {bb : Int → Int → Int} (x : SM h a A pp ss bb) : am_t h (A 4 0) = 24 := x.2.2.2.2.2.2.2.2.2.2.2.2.2.2.2.2.2.2.2.2.2.1
theorem SM.bl {h : AH} {a : Int} {A pp ss : TT} {bb : Int → Int → Int} (x : SM h a A pp ss bb) : am_l h (A 4 0) = pp 3 0 := x.2.2.2.2.2.2.2.2.2.2.2.2.2.2.2.2.2.2.2.2.2.2.1
theorem SM.b {h : AH} {a : Int} {A pp ss : TT} {bb : Int → Int → Int} (x : SM h a A pp ss bb) : ∀ i, 0 ≤ i → i < pp 3 0 → am_m h (A 4 0) i = A 8 i ∧ am_t h (A 8 i) = 20 ∧ am_l h (A 8 i) = 5 ∧ ∀ j, 0 ≤ j → j < 5 → am_m h (A 8 i) j = bb i j := x.2.2.2.2.2.2.2.2.2.2.2.2.2.2.2.2.2.2.2.2.2.2.2.1
theorem SM.br {h : AH} {a : Int} {A pp ss : TT} {bb : Int → Int → Int} (x : SM h a A pp ss bb) : ∀ i, 0 ≤ i → i < pp 3 0 → (0 ≤ bb i 0 ∧ bb i 0 < pp 1 0) ∧ (0 ≤ bb i 1 ∧ bb i 1 < 8) ∧ (0 ≤ bb i 2 ∧ bb i 2 < 20) ∧ (0 ≤ bb i 3 ∧ bb i 3 < 90) ∧ 0 ≤ bb i 4 ∧ bb i 4 < 42 := x.2.2.2.2.2.2.2.2.2.2.2.2.2.2.2.2.2.2.2.2.2.2.2.2.1
theorem SM.pi {h : AH} {a : Int} {A pp ss : TT} {bb : Int → Int → Int} (x : SM h a A pp ss bb) : PI pp := x.2.2.2.2.2.2.2.2.2.2.2.2.2.2.2.2.2.2.2.2.2.2.2.2.2.1
theorem SM.si {h : AH} {a : Int} {A pp ss : TT} {bb : Int → Int → Int} (x : SM h a A pp ss bb) : SI pp ss := x.2.2.2.2.2.2.2.2.2.2.2.2.2.2.2.2.2.2.2.2.2.2.2.2.2.2.1
theorem SM.p1 {h : AH} {a : Int} {A pp ss : TT} {bb : Int → Int → Int} (x : SM h a A pp ss bb) : 1 ≤ pp 1 0 ∧ pp 1 0 ≤ 7 ∧ 1 ≤ pp 2 0 ∧ pp 2 0 ≤ 7 := x.2.2.2.2.2.2.2.2.2.2.2.2.2.2.2.2.2.2.2.2.2.2.2.2.2.2.2.1
theorem SM.nn {h : AH} {a : Int} {A pp ss : TT} {bb : Int → Int → Int} (x : SM h a A pp ss bb) : ¬ a = -1 ∧ ¬ A 3 0 = -1 ∧ (∀ i, 0 ≤ i → i < pp 2 0 → ¬ A 7 i = -1 ∧ ¬ A 6 i = -1) ∧ (∀ i, 0 ≤ i → i < pp 1 0 → ¬ A 5 i = -1) ∧ ∀ i, 0 ≤ i → i < pp 3 0 → ¬ A 8 i = -1 := x.2.2.2.2.2.2.2.2.2.2.2.2.2.2.2.2.2.2.2.2.2.2.2.2.2.2.2.2.1
theorem SM.nr {h : AH} {a : Int} {A pp ss : TT} {bb : Int → Int → Int} (x : SM h a A pp ss bb) : ¬ A 1 0 = -1 ∧ ¬ A 2 0 = -1 ∧ ¬ A 4 0 = -1 := x.2.2.2.2.2.2.2.2.2.2.2.2.2.2.2.2.2.2.2.2.2.2.2.2.2.2.2.2.2.1
theorem SM.bd {h : AH} {a : Int} {A pp ss : TT} {bb : Int → Int → Int} (x : SM h a A pp ss bb) : (a < am_n h ∧ A 0 0 < am_n h ∧ A 1 0 < am_n h ∧ A 2 0 < am_n h ∧ A 3 0 < am_n h ∧ A 4 0 < am_n h) ∧ (∀ i, 0 ≤ i → i < pp 1 0 → A 5 i < am_n h) ∧ (∀ i, 0 ≤ i → i < pp 2 0 → A 6 i < am_n h ∧ A 7 i < am_n h) ∧ ∀ i, 0 ≤ i → i < pp 3 0 → A 8 i < am_n h := x.2.2.2.2.2.2.2.2.2.2.2.2.2.2.2.2.2.2.2.2.2.2.2.2.2.2.2.2.2.2.1
theorem SM.dp {h : AH} {a : Int} {A pp ss : TT} {bb : Int → Int → Int} (x : SM h a A pp ss bb) : ∀ i j, 0 ≤ i → i < pp 1 0 → 0 ≤ j → j < pp 1 0 → ¬ i = j → ¬ A 5 i = A 5 j := x.2.2.2.2.2.2.2.2.2.2.2.2.2.2.2.2.2.2.2.2.2.2.2.2.2.2.2.2.2.2.2.1
theorem SM.dv {h : AH} {a : Int} {A pp ss : TT} {bb : Int → Int → Int} (x : SM h a A pp ss bb) : ∀ i j, 0 ≤ i → i < pp 2 0 → 0 ≤ j → j < pp 2 0 → ¬ i = j → ¬ A 6 i = A 6 j := x.2.2.2.2.2.2.2.2.2.2.2.2.2.2.2.2.2.2.2.2.2.2.2.2.2.2.2.2.2.2.2.2.1
theorem SM.dl {h : AH} {a : Int} {A pp ss : TT} {bb : Int → Int → Int} (x : SM h a A pp ss bb) : ∀ i j, 0 ≤ i → i < pp 2 0 → 0 ≤ j → j < pp 2 0 → ¬ i = j → ¬ A 7 i = A 7 j := x.2.2.2.2.2.2.2.2.2.2.2.2.2.2.2.2.2.2.2.2.2.2.2.2.2.2.2.2.2.2.2.2.2.1
theorem SM.dpv {h : AH} {a : Int} {A pp ss : TT} {bb : Int → Int → Int} (x : SM h a A pp ss bb) : ∀ i j, 0 ≤ i → i < pp 1 0 → 0 ≤ j → j < pp 2 0 → ¬ A 5 i = A 6 j := x.2.2.2.2.2.2.2.2.2.2.2.2.2.2.2.2.2.2.2.2.2.2.2.2.2.2.2.2.2.2.2.2.2.2.1
theorem SM.dc {h : AH} {a : Int} {A pp ss : TT} {bb : Int → Int → Int} (x : SM h a A pp ss bb) : (∀ i, 0 ≤ i → i < pp 1 0 → ¬ A 5 i = A 0 0) ∧ ∀ i, 0 ≤ i → i < pp 2 0 → ¬ A 6 i = A 0 0 := x.2.2.2.2.2.2.2.2.2.2.2.2.2.2.2.2.2.2.2.2.2.2.2.2.2.2.2.2.2.2.2.2.2.2.2.1
theorem SM.db {h : AH} {a : Int} {A pp ss : TT} {bb : Int → Int → Int} (x : SM h a A pp ss bb) : ∀ k, 0 ≤ k → k < pp 3 0 → (∀ i, 0 ≤ i → i < pp 1 0 → ¬ A 5 i = A 8 k) ∧ ∀ i, 0 ≤ i → i < pp 2 0 → ¬ A 6 i = A 8 k := x.2.2.2.2.2.2.2.2.2.2.2.2.2.2.2.2.2.2.2.2.2.2.2.2.2.2.2.2.2.2.2.2.2.2.2.2
/-- what keeps all that was there keeps the law's jury -/
theorem SM.fp {h h' : AH} {a u w : Int} {A pp ss : TT} {bb : Int → Int → Int} (x : SM h a A pp ss bb) (f : FP u w h h') (hu : am_n h ≤ u) (hw : am_n h ≤ w) : SM h' a A pp ss bb := by
  obtain ⟨f1, f2, f3, f4, f5⟩ := f
  have T : ∀ b, b < am_n h → am_t h' b = am_t h b := fun b hb => (f4 b hb).1
  have L : ∀ b, b < am_n h → am_l h' b = am_l h b := fun b hb => (f4 b hb).2
  have M : ∀ b i, b < am_n h → am_m h' b i = am_m h b i := fun b i hb => f5 b hb (by omega) (by omega) i
  obtain ⟨⟨ba, b0, b1, b2, b3, b4⟩, b5, b6, b8⟩ := x.bd
  refine ⟨(T _ ba).trans x.t, (M _ _ ba).trans x.m0, (M _ _ ba).trans x.m1, (M _ _ ba).trans x.m2, (M _ _ ba).trans x.m3, (M _ _ ba).trans x.m4, (M _ _ ba).trans x.m5, (M _ _ ba).trans x.m6, (M _ _ ba).trans x.m7, (M _ _ ba).trans x.m8, (M _ _ ba).trans x.m9, ⟨(T _ b0).trans x.caps.1, (L _ b0).trans x.caps.2.1, fun i h0 h1 => (M _ _ b0).trans (x.caps.2.2 i h0 h1)⟩, (T _ b1).trans x.pt, (L _ b1).trans x.pl, fun i h0 h1 => ?_, (T _ b2).trans x.vt, (L _ b2).trans x.vl, fun i h0 h1 => ?_, (T _ b3).trans x.lt, (L _ b3).trans x.ll, fun i h0 h1 => ?_, (T _ b4).trans x.bt, (L _ b4).trans x.bl, fun i h0 h1 => ?_, x.br, x.pi, x.si, x.p1, x.nn, x.nr, ⟨⟨by omega, by omega, by omega, by omega, by omega, by omega⟩, fun i h0 h1 => by have := b5 i h0 h1; omega, fun i h0 h1 => by have := b6 i h0 h1; omega, fun i h0 h1 => by have := b8 i h0 h1; omega⟩, x.dp, x.dv, x.dl, x.dpv, x.dc, x.db⟩
  · obtain ⟨e1, e2, e3, e4, e5, e6, e7, e8⟩ := x.p i h0 h1
    have q := b5 i h0 h1
    exact ⟨(M _ _ b1).trans e1, (T _ q).trans e2, (L _ q).trans e3, (M _ _ q).trans e4, (M _ _ q).trans e5, (M _ _ q).trans e6, (M _ _ q).trans e7, (M _ _ q).trans e8⟩
  · obtain ⟨e1, e2, e3, e4, e5⟩ := x.v i h0 h1
    have q := (b6 i h0 h1).1
    exact ⟨(M _ _ b2).trans e1, (T _ q).trans e2, (L _ q).trans e3, (M _ _ q).trans e4, (M _ _ q).trans e5⟩
  · obtain ⟨e1, e2, e3, e4⟩ := x.l i h0 h1
    have q := (b6 i h0 h1).2
    exact ⟨(M _ _ b3).trans e1, (T _ q).trans e2, (L _ q).trans e3, fun j j0 j1 => (M _ _ q).trans (e4 j j0 j1)⟩
  · obtain ⟨e1, e2, e3, e4⟩ := x.b i h0 h1
    have q := b8 i h0 h1
    exact ⟨(M _ _ b4).trans e1, (T _ q).trans e2, (L _ q).trans e3, fun j j0 j1 => (M _ _ q).trans (e4 j j0 j1)⟩
theorem SM.s9 {h : AH} {a : Int} {A pp ss : TT} {bb : Int → Int → Int} (x : SM h a A pp ss bb) (i : Int) : ss 9 i = 0 ∨ ss 9 i = 1 := x.si.2.2.2.2.2.1 i
theorem SM.nf {h : AH} {a p : Int} {A pp ss : TT} {bb : Int → Int → Int} (x : SM h a A pp ss bb) (n : Nat) : 0 ≤ sm (f_nf ss p) n ∧ sm (f_nf ss p) n ≤ 1 * (n : Int) := sm_bd (fun i _ => by
  have := x.s9 (12 * (i : Int) + p)
  unfold f_nf
  omega)
theorem s156 {d : Nat} {h : AH} {a p : Int} {A pp ss : TT} {bb : Int → Int → Int} {K : AK} (c : SM h a A pp ss bb) (h0 : 0 ≤ p) (h1 : p < pp 1 0) (k : K 0 (s_nf pp ss p) h) : am_call d 156 [(2, a), (0, p)] h K := by
  have hN := c.p1
  refine v156 ⟨c.t, by rw [c.m7]; exact c.nn.2.1, by rw [c.m7, c.lt]; decide, ?_⟩
  rw [c.m7, c.ll]
  refine lp_in (S := AV) (fun n y => (14, [(2, a), (0, p), (0, sm (f_nf ss p) n), (2, A 3 0), (0, pp 2 0), (0, (n : Int)), y], [], h, 0, 0)) (fun _ _ => True) (pp 2 0).toNat (fun n y hn _ nx => ?_) (fun y _ => ?_) (9, 0) trivial
  · obtain ⟨e1, e2, e3, e4⟩ := c.l (n : Int) (by omega) (by omega)
    have hb := c.nf (p := p) n
    have e5 := e4 p h0 h1
    have h9 := c.s9 (12 * (n : Int) + p)
    have st : sm (f_nf ss p) (n + 1) = sm (f_nf ss p) n + ss 9 (12 * (n : Int) + p) := rfl
    refine v156_14 ?_
    rw [e1, e2, e3, e5, c.lt, c.ll]
    rw [show w32 ((n : Int) + 1) = ((n + 1 : Nat) : Int) by rw [w32_id (by omega) (by omega)]; omega]
    refine ⟨fun _ => ⟨⟨Or.inr rfl, by omega, by omega⟩, (c.nn.2.2.1 _ (by omega) (by omega)).1, ⟨rfl, h0, h1⟩, fun z => ?_, fun z => ?_⟩, fun z => absurd (show (n : Int) < pp 2 0 by omega) z⟩
    · rw [show w32 (sm (f_nf ss p) n + 0) = sm (f_nf ss p) (n + 1) by rw [w32_id (by omega) (by omega), st, z]]
      exact nx _ trivial
    · rw [show w32 (sm (f_nf ss p) n + 1) = sm (f_nf ss p) (n + 1) by rw [w32_id (by omega) (by omega), st, show ss 9 (12 * (n : Int) + p) = 1 by omega]]
      exact nx _ trivial
  · refine v156_14 ⟨fun z => absurd z (by omega), fun _ => k⟩
theorem SM.cf {h : AH} {a p : Int} {A pp ss : TT} {bb : Int → Int → Int} (x : SM h a A pp ss bb) (n : Nat) (hn : (n : Int) ≤ pp 2 0) : 0 ≤ sm (f_cf ss p) n ∧ sm (f_cf ss p) n ≤ 9999 * (n : Int) := sm_bd (fun i hi => by
  have := x.si.2.2.2.1 (i : Int) (by omega) (by omega)
  unfold f_cf
  by_cases z : ss 9 (12 * (i : Int) + p) = 0
  · rw [if_pos z]; omega
  · rw [if_neg z]; exact this)
theorem s157 {d : Nat} {h : AH} {a p : Int} {A pp ss : TT} {bb : Int → Int → Int} {K : AK} (c : SM h a A pp ss bb) (h0 : 0 ≤ p) (h1 : p < pp 1 0) (k : K 0 (s_cf pp ss p) h) : am_call d 157 [(2, a), (0, p)] h K := by
  have hN := c.p1
  refine v157 ?_
  refine lp_up (fun n => (4, [(2, a), (0, p), (0, sm (f_cf ss p) n), (0, (n : Int))], [], h, 0, 0)) (pp 2 0).toNat (fun n hn nx => ?_) ?_
  · obtain ⟨e1, e2, e3, e4⟩ := c.l (n : Int) (by omega) (by omega)
    obtain ⟨g1, g2, g3, g4, -⟩ := c.v (n : Int) (by omega) (by omega)
    have hb := c.cf (p := p) n (by omega)
    have hq := c.si.2.2.2.1 (n : Int) (by omega) (by omega)
    have e5 := e4 p h0 h1
    have st : sm (f_cf ss p) (n + 1) = sm (f_cf ss p) n + (if ss 9 (12 * (n : Int) + p) = 0 then 0 else ss 4 (n : Int)) := rfl
    refine v157_4 ?_
    rw [c.t, c.m6, c.m7, e1, e2, e3, e5, c.lt, c.ll, c.vt, c.vl, g1, g2, g3, g4]
    rw [show w32 ((n : Int) + 1) = ((n + 1 : Nat) : Int) by rw [w32_id (by omega) (by omega)]; omega]
    refine ⟨rfl, by decide, fun _ => ⟨rfl, ⟨Or.inr rfl, by omega, by omega⟩, ⟨rfl, h0, h1⟩, fun z => ?_, fun z => ⟨rfl, ⟨Or.inl rfl, by omega, by omega⟩, ⟨rfl, by decide, by decide⟩, ?_⟩⟩, fun z => absurd (show (n : Int) < pp 2 0 by omega) z⟩
    · rw [show w32 (sm (f_cf ss p) n + 0) = sm (f_cf ss p) (n + 1) by rw [w32_id (by omega) (by omega), st, if_pos z]]
      exact nx
    · rw [show w32 (sm (f_cf ss p) n + ss 4 (n : Int)) = sm (f_cf ss p) (n + 1) by rw [w32_id (by omega) (by omega), st, if_neg z]]
      exact nx
  · refine v157_4 ?_
    rw [c.t, c.m6, c.vt, c.vl]
    exact ⟨rfl, by decide, fun z => absurd z (by omega), fun _ => k⟩
theorem SM.pf {h : AH} {a v : Int} {A pp ss : TT} {bb : Int → Int → Int} (x : SM h a A pp ss bb) (n : Nat) : 0 ≤ sm (f_pl ss v) n ∧ sm (f_pl ss v) n ≤ 1 * (n : Int) := sm_bd (fun i _ => by
  have := x.s9 (12 * v + (i : Int))
  unfold f_pl
  by_cases z : ss 7 (i : Int) = -1
  · rw [if_pos z]; omega
  · rw [if_neg z]; omega)
theorem s158 {d : Nat} {h : AH} {a v : Int} {A pp ss : TT} {bb : Int → Int → Int} {K : AK} (c : SM h a A pp ss bb) (h0 : 0 ≤ v) (h1 : v < pp 2 0) (k : K 0 (s_pl pp ss v) h) : am_call d 158 [(2, a), (0, v)] h K := by
  have hN := c.p1
  refine v158 ?_
  refine lp_up (fun n => (4, [(2, a), (0, v), (0, sm (f_pl ss v) n), (0, (n : Int))], [], h, 0, 0)) (pp 1 0).toNat (fun n hn nx => ?_) ?_
  · obtain ⟨e1, e2, e3, e4⟩ := c.l v h0 h1
    obtain ⟨g1, g2, g3, -, -, -, g4, -⟩ := c.p (n : Int) (by omega) (by omega)
    have hb := c.pf (v := v) n
    have hq := (c.si.2.2.2.2.1 (n : Int) (by omega) (by omega)).2.1
    have e5 := e4 (n : Int) (by omega) (by omega)
    have h9 := c.s9 (12 * v + (n : Int))
    have st : sm (f_pl ss v) (n + 1) = sm (f_pl ss v) n + (if ss 7 (n : Int) = -1 then 0 else ss 9 (12 * v + (n : Int))) := rfl
    refine v158_4 ?_
    rw [c.t, c.m5, c.m7, e1, e2, e3, e5, c.lt, c.ll, c.pt, c.pl, g1, g2, g3, g4]
    rw [show w32 ((n : Int) + 1) = ((n + 1 : Nat) : Int) by rw [w32_id (by omega) (by omega)]; omega]
    refine ⟨rfl, by decide, fun _ => ⟨rfl, ⟨Or.inr rfl, h0, h1⟩, ⟨rfl, by omega, by omega⟩, fun z => ?_, fun z => ⟨rfl, ⟨Or.inl rfl, by omega, by omega⟩, ⟨rfl, by decide, by decide⟩, fun y => ?_, fun y => ?_⟩⟩, fun z => absurd (show (n : Int) < pp 1 0 by omega) z⟩
    · rw [show w32 (sm (f_pl ss v) n + 0) = sm (f_pl ss v) (n + 1) by rw [w32_id (by omega) (by omega), st, z]; by_cases u : ss 7 (n : Int) = -1 <;> simp [u]]
      exact nx
    · rw [show w32 (sm (f_pl ss v) n + 0) = sm (f_pl ss v) (n + 1) by rw [w32_id (by omega) (by omega), st, if_pos (by omega)]]
      exact nx
    · rw [show w32 (sm (f_pl ss v) n + 1) = sm (f_pl ss v) (n + 1) by rw [w32_id (by omega) (by omega), st, if_neg (by omega), show ss 9 (12 * v + (n : Int)) = 1 by omega]]
      exact nx
  · refine v158_4 ?_
    rw [c.t, c.m5, c.pt, c.pl]
    exact ⟨rfl, by decide, fun z => absurd z (by omega), fun _ => k⟩
/-! ===== the law's own jury: bans, whether a project can be chosen ===== -/
/-- what a ban of the law's says, by its numbers b (1 kind, 2 n, 3 m, 4 who) -/
def hB (pp ss : TT) (b : Int → Int) : Bool :=
  if b 1 = 0 then decide (ss 0 0 % (b 2 % 5 + 1) = 0) else
  if b 1 = 1 then decide (ss 2 0 < b 3) else
  if b 1 = 2 then !decide (ss 7 (b 4 % pp 1 0) < 0) else
  if b 1 = 3 then decide (ss 9 (12 * (b 4 % pp 2 0) + b 4 % pp 1 0) = 1) else
  if b 1 = 4 then decide (5 * b 3 < ss 6 (b 4 % pp 1 0)) else
  if b 1 = 5 then decide (s_nf pp ss (b 4 % pp 1 0) < b 2 % 7) else
  if b 1 = 6 then (decide (b 3 < ss 4 (b 4 % pp 2 0)) || !decide (s_pl pp ss (b 4 % pp 2 0) < b 2 % 5)) else
  decide (min (ss 2 0) (b 2) < ss 0 0) && (decide (b 2 < ss 0 0) || decide (ss 7 (b 4 % pp 1 0) < 0))
def bI (b : Bool) : Int := if b = true then 1 else 0
theorem bI_1 {p : Prop} [Decidable p] (h : p) : bI (decide p) = 1 := by unfold bI; rw [if_pos (decide_eq_true h)]
theorem bI_0 {p : Prop} [Decidable p] (h : ¬ p) : bI (decide p) = 0 := by unfold bI; rw [if_neg (fun z => h (of_decide_eq_true z))]
theorem bI_n1 {p : Prop} [Decidable p] (h : ¬ p) : bI (!decide p) = 1 := by simp [bI, h]
theorem bI_n0 {p : Prop} [Decidable p] (h : p) : bI (!decide p) = 0 := by simp [bI, h]
theorem s159 {d : Nat} {h : AH} {a i : Int} {A pp ss : TT} {bb : Int → Int → Int} {K : AK} (c : SM h a A pp ss bb) (h0 : 0 ≤ i) (h1 : i < pp 3 0) (k : K 0 (bI (hB pp ss (bb i))) h) : am_call (d + 1) 159 [(2, a), (2, A 8 i)] h K := by
  obtain ⟨-, e1, e2, e3⟩ := c.b i h0 h1
  obtain ⟨b0, b1, b2, b3, b4⟩ := c.br i h0 h1
  have hN := c.p1
  have y0 := c.si.1
  have m1 := e3 1 (by decide) (by decide)
  have m2 := e3 2 (by decide) (by decide)
  have m3 := e3 3 (by decide) (by decide)
  have m4 := e3 4 (by decide) (by decide)
  have t1 : (bb i 4).tmod (pp 1 0) = bb i 4 % pp 1 0 := Int.tmod_eq_emod_of_nonneg b4.1
  have t2 : (bb i 4).tmod (pp 2 0) = bb i 4 % pp 2 0 := Int.tmod_eq_emod_of_nonneg b4.1
  have t5 : (bb i 2).tmod 5 = bb i 2 % 5 := Int.tmod_eq_emod_of_nonneg b2.1
  have t7 : (bb i 2).tmod 7 = bb i 2 % 7 := Int.tmod_eq_emod_of_nonneg b2.1
  have tw : w32 (bb i 2 % 5 + 1) = bb i 2 % 5 + 1 := w32_id (by omega) (by omega)
  have ty : (ss 0 0).tmod (bb i 2 % 5 + 1) = ss 0 0 % (bb i 2 % 5 + 1) := Int.tmod_eq_emod_of_nonneg y0.1
  have tm : w32 (5 * bb i 3) = 5 * bb i 3 := w32_id (by omega) (by omega)
  have p0 := Int.emod_nonneg (bb i 4) (show pp 1 0 ≠ 0 by omega)
  have p1 := Int.emod_lt_of_pos (bb i 4) (show 0 < pp 1 0 by omega)
  have v0 := Int.emod_nonneg (bb i 4) (show pp 2 0 ≠ 0 by omega)
  have v1 := Int.emod_lt_of_pos (bb i 4) (show 0 < pp 2 0 by omega)
  obtain ⟨q1, q2, q3, q4, q5, q6, q7, q8⟩ := c.p _ p0 p1
  obtain ⟨r1, r2, r3, r4, r5⟩ := c.v _ v0 v1
  obtain ⟨l1, l2, l3, l4⟩ := c.l _ v0 v1
  have l5 := l4 _ p0 p1
  have l9 := c.s9 (12 * (bb i 4 % pp 2 0) + bb i 4 % pp 1 0)
  refine v159 ?_
  rw [e1, e2, c.t, c.m5, c.m6, c.m7, c.m0, c.m1, c.pt, c.pl, c.vt, c.vl, c.lt, c.ll, m1, m2, m3, m4, t1, t2, t5, t7, tw, ty, tm, q1, q2, q3, q4, q7, r1, r2, r3, r4, l1, l2, l3, l5]
  clear tw tm
  have k' := k
  unfold hB at k'
  refine ⟨⟨rfl, by decide, by decide⟩, ⟨rfl, by decide, by decide⟩, ⟨rfl, by decide, by decide⟩, rfl, by decide, by omega, ⟨rfl, by decide, by decide⟩, rfl, by decide, by omega, ⟨rfl, by decide, by decide⟩, fun z => ?_, fun z0 => ⟨fun z => ?_, fun z1 => ⟨fun z => ?_, fun z2 => ⟨fun z => ?_, fun z3 => ⟨fun z => ?_, fun z4 => ⟨fun z => ?_, fun z5 => ⟨fun z => ?_, fun z6 => ?_⟩⟩⟩⟩⟩⟩⟩
  · rw [if_pos z] at k'
    exact ⟨rfl, by decide, by omega, fun y => ⟨Or.inr rfl, by rw [bI_1 y] at k'; exact k'⟩, fun y => ⟨Or.inl rfl, by rw [bI_0 y] at k'; exact k'⟩⟩
  · rw [if_neg z0, if_pos z] at k'
    exact ⟨rfl, fun y => ⟨Or.inr rfl, by rw [bI_1 y] at k'; exact k'⟩, fun y => ⟨Or.inl rfl, by rw [bI_0 y] at k'; exact k'⟩⟩
  · rw [if_neg z0, if_neg z1, if_pos z] at k'
    exact ⟨rfl, ⟨Or.inl rfl, p0, p1⟩, ⟨rfl, by decide, by decide⟩, fun y => ⟨Or.inl rfl, by rw [bI_n0 y] at k'; exact k'⟩, fun y => ⟨Or.inr rfl, by rw [bI_n1 y] at k'; exact k'⟩⟩
  · rw [if_neg z0, if_neg z1, if_neg z2, if_pos z] at k'
    refine ⟨rfl, ⟨Or.inr rfl, v0, v1⟩, ⟨rfl, p0, p1⟩, l9, ?_⟩
    rcases l9 with e | e
    · rw [bI_0 (by omega)] at k'; rw [e]; exact k'
    · rw [bI_1 e] at k'; rw [e]; exact k'
  · rw [if_neg z0, if_neg z1, if_neg z2, if_neg z3, if_pos z] at k'
    exact ⟨rfl, ⟨Or.inl rfl, p0, p1⟩, ⟨rfl, by decide, by decide⟩, fun y => ⟨Or.inr rfl, by rw [bI_1 y] at k'; exact k'⟩, fun y => ⟨Or.inl rfl, by rw [bI_0 y] at k'; exact k'⟩⟩
  · rw [if_neg z0, if_neg z1, if_neg z2, if_neg z3, if_neg z4, if_pos z] at k'
    exact ⟨rfl, s156 c p0 p1 (okx ⟨by decide, fun y => ⟨Or.inr rfl, by rw [bI_1 y] at k'; exact k'⟩, fun y => ⟨Or.inl rfl, by rw [bI_0 y] at k'; exact k'⟩⟩)⟩
  · rw [if_neg z0, if_neg z1, if_neg z2, if_neg z3, if_neg z4, if_neg z5, if_pos z] at k'
    refine ⟨rfl, ⟨Or.inl rfl, v0, v1⟩, ⟨rfl, by decide, by decide⟩, fun y => ⟨Or.inr rfl, ?_⟩, fun y => ⟨rfl, s158 c v0 v1 (okx ⟨by decide, fun x => ⟨Or.inl rfl, ?_⟩, fun x => ⟨Or.inr rfl, ?_⟩⟩)⟩⟩
    · rw [decide_eq_true y, Bool.true_or] at k'; exact k'
    · rw [decide_eq_false y, Bool.false_or, bI_n0 x] at k'; exact k'
    · rw [decide_eq_false y, Bool.false_or, bI_n1 x] at k'; exact k'
  · rw [if_neg z0, if_neg z1, if_neg z2, if_neg z3, if_neg z4, if_neg z5, if_neg z6] at k'
    refine ⟨rfl, rfl, fun y => ⟨rfl, fun x => ⟨Or.inr rfl, ?_⟩, fun x => ⟨rfl, ⟨Or.inl rfl, p0, p1⟩, ⟨rfl, by decide, by decide⟩, fun w => ⟨Or.inr rfl, ?_⟩, fun w => ⟨Or.inl rfl, ?_⟩⟩⟩, fun y => ⟨Or.inl rfl, ?_⟩⟩
    · rw [decide_eq_true y, decide_eq_true x] at k'; exact k'
    · rw [decide_eq_true y, decide_eq_false x, decide_eq_true w] at k'; exact k'
    · rw [decide_eq_true y, decide_eq_false x, decide_eq_false w] at k'; exact k'
    · rw [decide_eq_false y, Bool.false_and] at k'; exact k'
/-- a ban of project p holds among the first n -/
def hBn (pp ss : TT) (bb : Int → Int → Int) (p : Int) : Nat → Bool
  | 0 => false
  | n + 1 => hBn pp ss bb p n || (decide (bb (n : Int) 0 = p) && hB pp ss (bb (n : Int)))
def s_hb (pp ss : TT) (bb : Int → Int → Int) (p : Int) : Bool := hBn pp ss bb p (pp 3 0).toNat
theorem or_b0 : am_or 0 0 = 0 ∧ am_or 1 0 = 1 ∧ am_or 0 1 = 1 ∧ am_or 1 1 = 1 := by decide
theorem bI_or (x y : Bool) : am_or (bI x) (bI y) = bI (x || y) := by
  cases x <;> cases y <;> decide
theorem bI_01 (x : Bool) : bI x = 0 ∨ bI x = 1 := by cases x <;> decide
theorem bI_e0 {x : Bool} (h : bI x = 0) : x = false := by cases x <;> first | rfl | exact absurd h (by decide)
theorem bI_e1 {x : Bool} (h : ¬ bI x = 0) : x = true := by cases x <;> first | rfl | exact absurd rfl h
theorem s160 {d : Nat} {h : AH} {a p : Int} {A pp ss : TT} {bb : Int → Int → Int} {K : AK} (c : SM h a A pp ss bb) (k : K 0 (bI (s_hb pp ss bb p)) h) : am_call (d + 2) 160 [(2, a), (0, p)] h K := by
  have hb := c.pi.2.2.2.1
  refine v160 ⟨c.t, by rw [c.m8]; exact c.nr.2.2, by rw [c.m8, c.bt]; decide, ?_⟩
  rw [c.m8, c.bl]
  refine lp_in (S := AV) (fun n y => (14, [(2, a), (0, p), (0, bI (hBn pp ss bb p n)), (2, A 4 0), (0, pp 3 0), (0, (n : Int)), y], [], h, 0, 0)) (fun _ _ => True) (pp 3 0).toNat (fun n y hn _ nx => ?_) (fun y _ => ?_) (9, 0) trivial
  · obtain ⟨e0, e1, e2, e3⟩ := c.b (n : Int) (by omega) (by omega)
    have m0 := e3 0 (by decide) (by decide)
    refine v160_14 ?_
    rw [e0, e1, e2, m0, c.bt, c.bl, c.t]
    rw [show w32 ((n : Int) + 1) = ((n + 1 : Nat) : Int) by rw [w32_id (by omega) (by omega)]; omega]
    refine ⟨fun _ => ⟨⟨Or.inl rfl, by omega, by omega⟩, c.nn.2.2.2.2 _ (by omega) (by omega), ⟨rfl, by decide, by decide⟩, fun z => ⟨rfl, s159 c (by omega) (by omega) (okx ⟨fun y => ?_, fun y => ?_⟩)⟩, fun z => ?_⟩, fun z => absurd (show (n : Int) < pp 3 0 by omega) z⟩
    · have e : hBn pp ss bb p (n + 1) = (hBn pp ss bb p n || false) := by
        show (_ || (decide (bb (n : Int) 0 = p) && hB pp ss (bb (n : Int)))) = _
        rw [bI_e0 y, Bool.and_false]
      have := nx (2, A 8 (n : Int)) trivial
      rw [e, ← bI_or] at this
      exact this
    · have e : hBn pp ss bb p (n + 1) = (hBn pp ss bb p n || true) := by
        show (_ || (decide (bb (n : Int) 0 = p) && hB pp ss (bb (n : Int)))) = _
        rw [bI_e1 y, decide_eq_true z]; rfl
      have := nx (2, A 8 (n : Int)) trivial
      rw [e, ← bI_or] at this
      exact this
    · have e : hBn pp ss bb p (n + 1) = (hBn pp ss bb p n || false) := by
        show (_ || (decide (bb (n : Int) 0 = p) && hB pp ss (bb (n : Int)))) = _
        rw [decide_eq_false z]; rfl
      have := nx (2, A 8 (n : Int)) trivial
      rw [e, ← bI_or] at this
      exact this
  · exact v160_14 ⟨fun z => absurd z (by omega), fun _ => ⟨bI_01 _, k⟩⟩
theorem SM.yf {pp ss : TT} (w : Int) (n : Nat) : 0 ≤ sm (f_yw pp ss w) n ∧ sm (f_yw pp ss w) n ≤ 1 * (n : Int) := sm_bd (fun i _ => by
  unfold f_yw
  by_cases z : pp 5 (i : Int) = w
  · rw [if_pos z]
    by_cases y : ss 7 (i : Int) = ss 0 0
    · rw [if_pos y]; decide
    · rw [if_neg y]; decide
  · rw [if_neg z]; decide)
/-- whether project p can be chosen -/
def s_cb (pp ss : TT) (bb : Int → Int → Int) (p : Int) : Bool := s_rm pp ss (-1) p && !s_hb pp ss bb p
theorem s161 {d : Nat} {h : AH} {a p : Int} {A pp ss : TT} {bb : Int → Int → Int} {K : AK} (c : SM h a A pp ss bb) (h0 : 0 ≤ p) (h1 : p < pp 1 0) (k : K 0 (bI (s_cb pp ss bb p)) h) : am_call (d + 3) 161 [(2, a), (0, p)] h K := by
  have hN := c.p1
  obtain ⟨q1, q2, q3, q4, q5, q6, q7, q8⟩ := c.p p h0 h1
  have hw := (c.pi.2.2.2.2.2.1 p h0 h1).1
  have h7 := (c.si.2.2.2.2.1 p h0 h1).2.1
  obtain ⟨w1, w2, w3⟩ := c.caps
  have w4 := w3 (pp 5 p) hw.1 hw.2
  refine v161 ⟨c.t, by rw [c.m5]; exact c.nr.1, by rw [c.m5, c.pt]; decide, ?_⟩
  rw [c.m5, c.pl]
  refine lp_in (S := AV) (fun n y => (14, [(2, a), (0, p), (0, sm (f_yw pp ss (pp 5 p)) n), (2, A 1 0), (0, pp 1 0), (0, (n : Int)), y], [], h, 0, 0)) (fun _ _ => True) (pp 1 0).toNat (fun n y hn _ nx => ?_) (fun y _ => ?_) (9, 0) trivial
  · obtain ⟨e1, e2, e3, e4, e5, e6, e7, e8⟩ := c.p (n : Int) (by omega) (by omega)
    have hb := SM.yf (pp := pp) (ss := ss) (pp 5 p) n
    have st : sm (f_yw pp ss (pp 5 p)) (n + 1) = sm (f_yw pp ss (pp 5 p)) n + (if pp 5 (n : Int) = pp 5 p then (if ss 7 (n : Int) = ss 0 0 then 1 else 0) else 0) := rfl
    refine v161_14 ?_
    rw [c.t, c.m5, c.m0, e1, e2, e3, e5, e7, q1, q2, q3, q5, c.pt, c.pl]
    rw [show w32 ((n : Int) + 1) = ((n + 1 : Nat) : Int) by rw [w32_id (by omega) (by omega)]; omega]
    refine ⟨fun _ => ⟨⟨Or.inl rfl, by omega, by omega⟩, c.nn.2.2.2.1 _ (by omega) (by omega), ⟨rfl, by decide, by decide⟩, rfl, ⟨Or.inl rfl, h0, h1⟩, ⟨rfl, by decide, by decide⟩, fun z => ⟨⟨rfl, by decide, by decide⟩, rfl, fun y => ?_, fun y => ?_⟩, fun z => ?_⟩, fun z => absurd (show (n : Int) < pp 1 0 by omega) z⟩
    · rw [show w32 (sm (f_yw pp ss (pp 5 p)) n + 1) = sm (f_yw pp ss (pp 5 p)) (n + 1) by rw [w32_id (by omega) (by omega), st, if_pos z, if_pos y]]
      exact nx _ trivial
    · rw [show w32 (sm (f_yw pp ss (pp 5 p)) n + 0) = sm (f_yw pp ss (pp 5 p)) (n + 1) by rw [w32_id (by omega) (by omega), st, if_pos z, if_neg y]]
      exact nx _ trivial
    · rw [show w32 (sm (f_yw pp ss (pp 5 p)) n + 0) = sm (f_yw pp ss (pp 5 p)) (n + 1) by rw [w32_id (by omega) (by omega), st, if_neg z]]
      exact nx _ trivial
  · have k' := k
    unfold s_cb s_rm s_yw at k'
    refine v161_14 ?_
    rw [c.t, c.m5, c.m4, c.m9, q1, q2, q3, q5, q7, c.pt, c.pl, w1, w2, w4]
    refine ⟨fun z => absurd z (by omega), fun _ => ⟨rfl, fun z => absurd z (by omega), fun z => ⟨rfl, ⟨Or.inl rfl, h0, h1⟩, ⟨rfl, by decide, by decide⟩, fun y => ⟨rfl, rfl, ⟨Or.inl rfl, h0, h1⟩, ⟨rfl, by decide, by decide⟩, ⟨rfl, hw.1, hw.2⟩, fun x => ⟨rfl, s160 c (okx ⟨fun u => ⟨Or.inr rfl, ?_⟩, fun u => ⟨Or.inl rfl, ?_⟩⟩)⟩, fun x => ⟨Or.inl rfl, ?_⟩⟩, fun y => ⟨Or.inl rfl, ?_⟩⟩⟩⟩
    · rw [decide_eq_true (show ss 7 p = -1 by omega), decide_eq_true (show p ≠ -1 by omega), decide_eq_true x, bI_e0 u] at k'
      exact k'
    · rw [decide_eq_true (show ss 7 p = -1 by omega), decide_eq_true (show p ≠ -1 by omega), decide_eq_true x, bI_e1 u] at k'
      exact k'
    · rw [decide_eq_false x, Bool.and_false, Bool.and_false, Bool.false_and] at k'
      exact k'
    · rw [decide_eq_false (show ¬ ss 7 p = -1 by omega), Bool.false_and, Bool.false_and] at k'
      exact k'
