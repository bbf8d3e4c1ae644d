/-! ===== which one is bought next: upwards and downwards the same ===== -/
def cnd (pp ss : TT) (tt : Int → List Op) (q : Int) : Prop := s_rm pp ss (-1) q = true ∧ s_bn pp ss tt q = false ∧ s_sh pp ss q ≠ -1
def btr (pp ss : TT) (r q : Int) : Prop := s_sh pp ss r < s_sh pp ss q ∨ (s_sh pp ss r = s_sh pp ss q ∧ (s_nf pp ss q < s_nf pp ss r ∨ (s_nf pp ss q = s_nf pp ss r ∧ r ≤ q)))
def bst (pp ss : TT) (tt : Int → List Op) (lo hi r : Int) : Prop := (r = -1 ∧ ∀ q, lo ≤ q → q < hi → ¬ cnd pp ss tt q) ∨ (lo ≤ r ∧ r < hi ∧ cnd pp ss tt r ∧ ∀ q, lo ≤ q → q < hi → cnd pp ss tt q → btr pp ss r q)
theorem bst_uniq {pp ss : TT} {tt : Int → List Op} {lo hi r r' : Int} (x : bst pp ss tt lo hi r) (y : bst pp ss tt lo hi r') : r = r' := by
  rcases x with ⟨x1, x2⟩ | ⟨x1, x2, x3, x4⟩ <;> rcases y with ⟨y1, y2⟩ | ⟨y1, y2, y3, y4⟩
  · omega
  · exact absurd y3 (x2 _ y1 y2)
  · exact absurd x3 (y2 _ x1 x2)
  · have a := x4 _ y1 y2 y3
    have b := y4 _ x1 x2 x3
    unfold btr at a b
    omega
theorem nxt_bst {pp ss : TT} {tt : Int → List Op} : ∀ n : Nat, bst pp ss tt 0 (n : Int) (nxt pp ss tt (-1) n).1 ∧ (¬ (nxt pp ss tt (-1) n).1 = -1 → (nxt pp ss tt (-1) n).2 = s_sh pp ss (nxt pp ss tt (-1) n).1)
  | 0 => ⟨Or.inl ⟨rfl, fun q h0 h1 => absurd h1 (by omega)⟩, fun z => absurd rfl z⟩
  | n + 1 => by
    obtain ⟨ih, ih2⟩ := nxt_bst (pp := pp) (ss := ss) (tt := tt) n
    rw [nxt_succ]
    generalize nxt pp ss tt (-1) n = r at ih ih2 ⊢
    have hs : s_be pp ss tt (-1) r (n : Int) = true ↔ cnd pp ss tt (n : Int) ∧ (r.1 = -1 ∨ s_sh pp ss (n : Int) < r.2 ∨ (s_sh pp ss (n : Int) = r.2 ∧ s_nf pp ss r.1 < s_nf pp ss (n : Int))) := by
      unfold s_be cnd
      simp only [Bool.and_eq_true, Bool.or_eq_true, Bool.not_eq_true', decide_eq_true_eq]
      constructor
      · rintro ⟨a, b, c, e⟩
        exact ⟨⟨a, b, c⟩, e⟩
      · rintro ⟨⟨a, b, c⟩, e⟩
        exact ⟨a, b, c, e⟩
    by_cases z : s_be pp ss tt (-1) r (n : Int) = true
    · rw [if_pos z]
      obtain ⟨z1, z2⟩ := hs.mp z
      refine ⟨Or.inr ⟨by show (0 : Int) ≤ (n : Int); omega, by show (n : Int) < ((n + 1 : Nat) : Int); omega, z1, fun q h0 h1 hq => ?_⟩, fun _ => rfl⟩
      show btr pp ss (n : Int) q
      by_cases e : q = (n : Int)
      · subst e; exact Or.inr ⟨rfl, Or.inr ⟨rfl, Int.le_refl _⟩⟩
      · rcases ih with ⟨i1, i2⟩ | ⟨i1, i2, i3, i4⟩
        · exact absurd hq (i2 q h0 (by omega))
        · have b := i4 q h0 (by omega) hq
          have b2 := ih2 (by omega)
          unfold btr at b ⊢
          omega
    · rw [if_neg z]
      refine ⟨?_, ih2⟩
      by_cases hc : cnd pp ss tt (n : Int)
      · have z3 : ¬ (r.1 = -1 ∨ s_sh pp ss (n : Int) < r.2 ∨ (s_sh pp ss (n : Int) = r.2 ∧ s_nf pp ss r.1 < s_nf pp ss (n : Int))) := fun y => z (hs.mpr ⟨hc, y⟩)
        rcases ih with ⟨i1, i2⟩ | ⟨i1, i2, i3, i4⟩
        · exact absurd (Or.inl i1) z3
        · refine Or.inr ⟨i1, by omega, i3, fun q h0 h1 hq => ?_⟩
          by_cases e : q = (n : Int)
          · subst e
            have b2 := ih2 (by omega)
            unfold btr
            omega
          · exact i4 q h0 (by omega) hq
      · rcases ih with ⟨i1, i2⟩ | ⟨i1, i2, i3, i4⟩
        · refine Or.inl ⟨i1, fun q h0 h1 => ?_⟩
          by_cases e : q = (n : Int)
          · subst e; exact hc
          · exact i2 q h0 (by omega)
        · refine Or.inr ⟨i1, by omega, i3, fun q h0 h1 hq => ?_⟩
          by_cases e : q = (n : Int)
          · subst e; exact absurd hq hc
          · exact i4 q h0 (by omega) hq
/-- one more from below -/
theorem bst_skip {pp ss : TT} {tt : Int → List Op} {i hi r : Int} (x : bst pp ss tt (i + 1) hi r) (hc : ¬ cnd pp ss tt i) : bst pp ss tt i hi r := by
  rcases x with ⟨i1, i2⟩ | ⟨i1, i2, i3, i4⟩
  · refine Or.inl ⟨i1, fun q h0 h1 => ?_⟩
    by_cases e : q = i
    · subst e; exact hc
    · exact i2 q (by omega) h1
  · refine Or.inr ⟨by omega, i2, i3, fun q h0 h1 hq => ?_⟩
    by_cases e : q = i
    · subst e; exact absurd hq hc
    · exact i4 q (by omega) h1 hq
theorem bst_keep {pp ss : TT} {tt : Int → List Op} {i hi r : Int} (x : bst pp ss tt (i + 1) hi r) (hr : ¬ r < 0) (hb : s_sh pp ss r < s_sh pp ss i ∨ (s_sh pp ss r = s_sh pp ss i ∧ s_nf pp ss i < s_nf pp ss r)) : bst pp ss tt i hi r := by
  rcases x with ⟨i1, i2⟩ | ⟨i1, i2, i3, i4⟩
  · omega
  · refine Or.inr ⟨by omega, i2, i3, fun q h0 h1 hq => ?_⟩
    by_cases e : q = i
    · subst e; unfold btr; omega
    · exact i4 q (by omega) h1 hq
theorem bst_take {pp ss : TT} {tt : Int → List Op} {i hi r : Int} (x : bst pp ss tt (i + 1) hi r) (hi' : i < hi) (hc : cnd pp ss tt i) (hb : r < 0 ∨ s_sh pp ss i < s_sh pp ss r ∨ (s_sh pp ss i = s_sh pp ss r ∧ ¬ s_nf pp ss i < s_nf pp ss r)) (h0' : 0 ≤ i) : bst pp ss tt i hi i := by
  refine Or.inr ⟨Int.le_refl _, hi', hc, fun q h0 h1 hq => ?_⟩
  by_cases e : q = i
  · subst e; exact Or.inr ⟨rfl, Or.inr ⟨rfl, Int.le_refl _⟩⟩
  · rcases x with ⟨i1, i2⟩ | ⟨i1, i2, i3, i4⟩
    · exact absurd hq (i2 q (by omega) h1)
    · have b := i4 q (by omega) h1 hq
      unfold btr at b ⊢
      omega
theorem sh_pm {pp ss : TT} {p : Int} (hc : 1 ≤ ss 6 p) : s_sh pp ss p = -1 ∨ 1 ≤ s_sh pp ss p := by
  by_cases z : s_tg pp ss p 9999 < ss 6 p
  · left; unfold s_sh; rw [if_pos z]
  · obtain ⟨t, e, h1, -⟩ := s_sh_spec z hc
    right; omega
theorem FP.nn {u w : Int} {h h1 h2 : AH} (x : FP u u h h1) (hu : am_n h ≤ u) (y : FP w w h1 h2) (hw : am_n h1 ≤ w) : FP u u h h2 := by
  obtain ⟨x1, x2, x3, x4, x5⟩ := x
  obtain ⟨y1, y2, y3, y4, y5⟩ := y
  refine ⟨by omega, y2.trans x2, fun j => (y3 j).trans (x3 j), fun b hb => ?_, fun b hb n1 n2 i => ?_⟩
  · obtain ⟨e1, e2⟩ := x4 b hb
    obtain ⟨e3, e4⟩ := y4 b (by omega)
    exact ⟨e3.trans e1, e4.trans e2⟩
  · exact (y5 b (by omega) (by omega) (by omega) i).trans (x5 b hb n1 n2 i)
theorem s164 {d : Nat} {h : AH} {a : Int} {A pp ss : TT} {bb : Int → Int → Int} {tt : Int → List Op} {K : AK} (c : SM h a A pp ss bb) (hq : ∀ q, 0 ≤ q → q < pp 1 0 → s_hb pp ss bb q = s_bn pp ss tt q) (n0 : 0 ≤ am_n h) (k : ∀ h2, FP (am_n h) (am_n h) h h2 → am_n h2 ≤ am_n h + 35 → K 0 (s_nx pp ss tt (-1)) h2) : am_call (d + 5) 164 [(2, a)] h K := by
  have hN := c.p1
  refine v164 ⟨c.t, by rw [c.m5, c.pt]; decide, ?_⟩
  rw [c.m5, c.pl, show w32 (pp 1 0 - 1) = (((pp 1 0).toNat : Nat) : Int) - 1 by rw [w32_id (by omega) (by omega)]; omega]
  suffices H : ∀ (i : Nat) (g : AH) (r : Int) (nc ns : Nat), (i : Int) ≤ pp 1 0 → FP (am_n h) (am_n h) h g → am_n g ≤ am_n h + 5 * (pp 1 0 - (i : Int)) → (nc : Int) ≤ 5 * (pp 1 0 - (i : Int)) → (ns : Int) ≤ 320 * (pp 1 0 - (i : Int)) → bst pp ss tt (i : Int) (pp 1 0) r → WP (d + 5) 164 (10, [(2, a), (0, r), (0, (i : Int) - 1)], [], g, nc, ns) K from
    H (pp 1 0).toNat h (-1) 0 0 (by omega) FP.rf (by omega) (by omega) (by omega) (Or.inl ⟨rfl, fun q h0 h1 => by omega⟩)
  intro i
  induction i with
  | zero =>
    intro g r nc ns hi f n1 hc hs b
    refine v164_10 ⟨fun _ => ?_, fun z => absurd (show (((0 : Nat) : Int) - 1 < 0) by decide) z⟩
    have := (nxt_bst (pp := pp) (ss := ss) (tt := tt) (pp 1 0).toNat).1
    rw [show (((pp 1 0).toNat : Nat) : Int) = pp 1 0 by omega] at this
    rw [bst_uniq b this]
    exact k g f (by omega)
  | succ i ih =>
    intro g r nc ns hi f n1 hc hs b
    have cg := c.fp f (Int.le_refl _) (Int.le_refl _)
    have f1 := f.1
    have hcost := (c.si.2.2.2.2.1 (i : Int) (by omega) (by omega)).1.1
    have pm := sh_pm (pp := pp) hcost
    have b' : bst pp ss tt ((i : Int) + 1) (pp 1 0) r := by rw [show (i : Int) + 1 = ((i + 1 : Nat) : Int) by omega]; exact b
    have hcn : cnd pp ss tt (i : Int) ↔ s_cb pp ss bb (i : Int) = true ∧ s_sh pp ss (i : Int) ≠ -1 := by
      unfold cnd s_cb
      rw [hq _ (by omega) (by omega), Bool.and_eq_true, Bool.not_eq_true']
      exact and_assoc.symm
    refine v164_10 ?_
    rw [show ((i + 1 : Nat) : Int) - 1 = (i : Int) by omega, show w32 ((i : Int) + (-1)) = (i : Int) - 1 by rw [w32_id (by omega) (by omega)]; omega]
    refine ⟨fun z => absurd z (by omega), fun _ => ⟨cg.t, s161 cg (by omega) (by omega) (okx ⟨fun z => ?_, fun z => ⟨⟨cg.t, by omega, by omega⟩, ?_⟩⟩)⟩⟩
    · exact ih g r nc ns (by omega) f (by omega) (by omega) (by omega) (bst_skip b' (fun y => by rw [(hcn.mp y).1] at z; exact absurd z (by decide)))
    · have hcb := bI_e1 z
      refine s162 cg (by omega) (by omega) (by omega) (fun g2 f2 n2 => okx ⟨fun y => ?_, fun y => ⟨fun x => ?_, fun x => ?_⟩⟩)
      · exact ih g2 r _ _ (by omega) (f.nn (Int.le_refl _) f2 (Int.le_refl _)) (by omega) (by omega) (by omega) (bst_skip b' (fun u => by have := (hcn.mp u).2; omega))
      · exact ih g2 _ _ _ (by omega) (f.nn (Int.le_refl _) f2 (Int.le_refl _)) (by omega) (by omega) (by omega) (bst_take b' (by omega) (hcn.mpr ⟨hcb, by omega⟩) (Or.inl x) (by omega))
      · have F2 := f.nn (Int.le_refl _) f2 (Int.le_refl _)
        have c2 := c.fp F2 (Int.le_refl _) (Int.le_refl _)
        have m2 := f2.1
        have rr : (i : Int) + 1 ≤ r ∧ r < pp 1 0 := by
          rcases b' with ⟨i1, -⟩ | ⟨i1, i2, -⟩
          · omega
          · exact ⟨i1, i2⟩
        refine ⟨⟨c2.t, by omega, by omega⟩, s162 c2 (by omega) (by omega) (by omega) (fun g3 f3 n3 => ?_)⟩
        have F3 := F2.nn (Int.le_refl _) f3 (Int.le_refl _)
        have c3 := c.fp F3 (Int.le_refl _) (Int.le_refl _)
        have m3 := f3.1
        refine okx ⟨⟨c3.t, by omega, by omega⟩, s162 c3 (by omega) (by omega) (by omega) (fun g4 f4 n4 => ?_)⟩
        have F4 := F3.nn (Int.le_refl _) f4 (Int.le_refl _)
        have c4 := c.fp F4 (Int.le_refl _) (Int.le_refl _)
        have m4 := f4.1
        refine okx ⟨fun u => ?_, fun u => ⟨⟨c4.t, by omega, by omega⟩, s162 c4 (by omega) (by omega) (by omega) (fun g5 f5 n5 => ?_)⟩⟩
        · exact ih g4 _ _ _ (by omega) F4 (by omega) (by omega) (by omega) (bst_take b' (by omega) (hcn.mpr ⟨hcb, by omega⟩) (Or.inr (Or.inl u)) (by omega))
        have F5 := F4.nn (Int.le_refl _) f5 (Int.le_refl _)
        have c5 := c.fp F5 (Int.le_refl _) (Int.le_refl _)
        have m5 := f5.1
        refine okx ⟨⟨c5.t, by omega, by omega⟩, s162 c5 (by omega) (by omega) (by omega) (fun g6 f6 n6 => ?_)⟩
        have F6 := F5.nn (Int.le_refl _) f6 (Int.le_refl _)
        have c6 := c.fp F6 (Int.le_refl _) (Int.le_refl _)
        have m6 := f6.1
        refine okx ⟨fun w => ⟨c6.t, s156 c6 (by omega) (by omega) (okx ⟨c6.t, s156 c6 (by omega) (by omega) (okx ⟨fun t => ?_, fun t => ?_⟩)⟩)⟩, fun w => ?_⟩
        · exact ih g6 _ _ _ (by omega) F6 (by omega) (by omega) (by omega) (bst_keep b' x (Or.inr ⟨w.symm, t⟩))
        · exact ih g6 _ _ _ (by omega) F6 (by omega) (by omega) (by omega) (bst_take b' (by omega) (hcn.mpr ⟨hcb, by omega⟩) (Or.inr (Or.inr ⟨w, t⟩)) (by omega))
        · exact ih g6 _ _ _ (by omega) F6 (by omega) (by omega) (by omega) (bst_keep b' x (Or.inl (by omega)))
