/-! ===== bans looked at; the whole list (printed by gen_chk3.py) ===== -/
def tsM (pp : TT) (b : Int → Int) : List Int :=
  if b 1 = 0 then [0, 0, (b 2 % 5 + 1), 0, (b 2 % 5 + 1), 0, 0] else
  if b 1 = 1 then [0, 0, (b 3)] else
  if b 1 = 2 then [0, (b 4 % pp 1 0)] else
  if b 1 = 3 then [0, (b 4 % pp 2 0), (b 4 % pp 1 0)] else
  if b 1 = 4 then [0, (b 4 % pp 1 0), 0, 5, 0, (b 3)] else
  if b 1 = 5 then [0, 0, (b 4 % pp 1 0), 0, (b 2 % 7)] else
  if b 1 = 6 then [0, (b 4 % pp 2 0), 0, (b 3), 0, 0, (b 4 % pp 2 0), 0, (b 2 % 5)] else
  [0, 0, 0, 0, (b 2), 0, 0, 0, 0, 0, 0, 0, 0, 0, (b 2), 0, 0, 0, (b 4 % pp 1 0), 0]
theorem ts_vm {pp : TT} {b : Int → Int} {n2 n3 : Nat} (hN : 1 ≤ pp 1 0 ∧ pp 1 0 ≤ 7 ∧ 1 ≤ pp 2 0 ∧ pp 2 0 ≤ 7) (e2 : pp 1 0 = (n2 : Int)) (e3 : pp 2 0 = (n3 : Int)) : VM n2 n3 (tsR b) ((tsT pp b).map Prod.snd) (tsM pp b) := by
  have q0 := Int.emod_nonneg (b 4) (show pp 1 0 ≠ 0 by omega)
  have q1 := Int.emod_lt_of_pos (b 4) (show 0 < pp 1 0 by omega)
  have v0 := Int.emod_nonneg (b 4) (show pp 2 0 ≠ 0 by omega)
  have v1 := Int.emod_lt_of_pos (b 4) (show 0 < pp 2 0 by omega)
  have q2 : b 4 % pp 1 0 < (n2 : Int) := by omega
  have v2 : b 4 % pp 2 0 < (n3 : Int) := by omega
  unfold tsR tsT tsM
  by_cases z0 : b 1 = 0
  · rw [if_pos z0, if_pos z0, if_pos z0]
    exact ⟨Or.inl ⟨rfl, rfl⟩, Or.inl ⟨rfl, rfl⟩, Or.inr (Or.inr (Or.inr ⟨rfl, rfl⟩)), Or.inl ⟨rfl, rfl⟩, Or.inr (Or.inr (Or.inr ⟨rfl, rfl⟩)), Or.inl ⟨rfl, rfl⟩, Or.inl ⟨rfl, rfl⟩, trivial⟩
  rw [if_neg z0, if_neg z0, if_neg z0]
  by_cases z1 : b 1 = 1
  · rw [if_pos z1, if_pos z1, if_pos z1]
    exact ⟨Or.inl ⟨rfl, rfl⟩, Or.inl ⟨rfl, rfl⟩, Or.inr (Or.inr (Or.inr ⟨rfl, rfl⟩)), trivial⟩
  rw [if_neg z1, if_neg z1, if_neg z1]
  by_cases z2 : b 1 = 2
  · rw [if_pos z2, if_pos z2, if_pos z2]
    exact ⟨Or.inl ⟨rfl, rfl⟩, Or.inr (Or.inl ⟨rfl, rfl, q0, q2⟩), trivial⟩
  rw [if_neg z2, if_neg z2, if_neg z2]
  by_cases z3 : b 1 = 3
  · rw [if_pos z3, if_pos z3, if_pos z3]
    exact ⟨Or.inl ⟨rfl, rfl⟩, Or.inr (Or.inr (Or.inl ⟨rfl, rfl, v0, v2⟩)), Or.inr (Or.inl ⟨rfl, rfl, q0, q2⟩), trivial⟩
  rw [if_neg z3, if_neg z3, if_neg z3]
  by_cases z4 : b 1 = 4
  · rw [if_pos z4, if_pos z4, if_pos z4]
    exact ⟨Or.inl ⟨rfl, rfl⟩, Or.inr (Or.inl ⟨rfl, rfl, q0, q2⟩), Or.inl ⟨rfl, rfl⟩, Or.inr (Or.inr (Or.inr ⟨rfl, rfl⟩)), Or.inl ⟨rfl, rfl⟩, Or.inr (Or.inr (Or.inr ⟨rfl, rfl⟩)), trivial⟩
  rw [if_neg z4, if_neg z4, if_neg z4]
  by_cases z5 : b 1 = 5
  · rw [if_pos z5, if_pos z5, if_pos z5]
    exact ⟨Or.inl ⟨rfl, rfl⟩, Or.inl ⟨rfl, rfl⟩, Or.inr (Or.inl ⟨rfl, rfl, q0, q2⟩), Or.inl ⟨rfl, rfl⟩, Or.inr (Or.inr (Or.inr ⟨rfl, rfl⟩)), trivial⟩
  rw [if_neg z5, if_neg z5, if_neg z5]
  by_cases z6 : b 1 = 6
  · rw [if_pos z6, if_pos z6, if_pos z6]
    exact ⟨Or.inl ⟨rfl, rfl⟩, Or.inr (Or.inr (Or.inl ⟨rfl, rfl, v0, v2⟩)), Or.inl ⟨rfl, rfl⟩, Or.inr (Or.inr (Or.inr ⟨rfl, rfl⟩)), Or.inl ⟨rfl, rfl⟩, Or.inl ⟨rfl, rfl⟩, Or.inr (Or.inr (Or.inl ⟨rfl, rfl, v0, v2⟩)), Or.inl ⟨rfl, rfl⟩, Or.inr (Or.inr (Or.inr ⟨rfl, rfl⟩)), trivial⟩
  rw [if_neg z6, if_neg z6, if_neg z6]
  exact ⟨Or.inl ⟨rfl, rfl⟩, Or.inl ⟨rfl, rfl⟩, Or.inl ⟨rfl, rfl⟩, Or.inl ⟨rfl, rfl⟩, Or.inr (Or.inr (Or.inr ⟨rfl, rfl⟩)), Or.inl ⟨rfl, rfl⟩, Or.inl ⟨rfl, rfl⟩, Or.inl ⟨rfl, rfl⟩, Or.inl ⟨rfl, rfl⟩, Or.inr (Or.inr (Or.inr ⟨rfl, rfl⟩)), Or.inl ⟨rfl, rfl⟩, Or.inl ⟨rfl, rfl⟩, Or.inl ⟨rfl, rfl⟩, Or.inl ⟨rfl, rfl⟩, Or.inr (Or.inr (Or.inr ⟨rfl, rfl⟩)), Or.inl ⟨rfl, rfl⟩, Or.inl ⟨rfl, rfl⟩, Or.inl ⟨rfl, rfl⟩, Or.inr (Or.inl ⟨rfl, rfl, q0, q2⟩), Or.inl ⟨rfl, rfl⟩, trivial⟩
theorem ts_mean {pp f : TT} {b : Int → Int} {i : Nat} (z : f 11 0 = 0) (h : KD (fun k => f 11 (k : Int)) i (tsM pp b)) : (tsO b i).map (rsl f) = oB pp b := by
  unfold tsM at h
  unfold tsO oB
  by_cases z0 : b 1 = 0
  · rw [if_pos z0] at h ⊢
    rw [if_pos z0]
    obtain ⟨k0, k1, k2, k3, k4, k5, k6, -⟩ := h
    dsimp only at k0 k1 k2 k3 k4 k5 k6
    simp only [List.map, rsl, k0, k1, k2, k3, k4, k5, k6, z]
  rw [if_neg z0] at h ⊢
  rw [if_neg z0]
  by_cases z1 : b 1 = 1
  · rw [if_pos z1] at h ⊢
    rw [if_pos z1]
    obtain ⟨k0, k1, k2, -⟩ := h
    dsimp only at k0 k1 k2
    simp only [List.map, rsl, k0, k1, k2, z]
  rw [if_neg z1] at h ⊢
  rw [if_neg z1]
  by_cases z2 : b 1 = 2
  · rw [if_pos z2] at h ⊢
    rw [if_pos z2]
    obtain ⟨k0, k1, -⟩ := h
    dsimp only at k0 k1
    simp only [List.map, rsl, k0, k1, z]
  rw [if_neg z2] at h ⊢
  rw [if_neg z2]
  by_cases z3 : b 1 = 3
  · rw [if_pos z3] at h ⊢
    rw [if_pos z3]
    obtain ⟨k0, k1, k2, -⟩ := h
    dsimp only at k0 k1 k2
    simp only [List.map, rsl, k0, k1, k2, z]
  rw [if_neg z3] at h ⊢
  rw [if_neg z3]
  by_cases z4 : b 1 = 4
  · rw [if_pos z4] at h ⊢
    rw [if_pos z4]
    obtain ⟨k0, k1, k2, k3, k4, k5, -⟩ := h
    dsimp only at k0 k1 k2 k3 k4 k5
    simp only [List.map, rsl, k0, k1, k2, k3, k4, k5, z]
  rw [if_neg z4] at h ⊢
  rw [if_neg z4]
  by_cases z5 : b 1 = 5
  · rw [if_pos z5] at h ⊢
    rw [if_pos z5]
    obtain ⟨k0, k1, k2, k3, k4, -⟩ := h
    dsimp only at k0 k1 k2 k3 k4
    simp only [List.map, rsl, k0, k1, k2, k3, k4, z]
  rw [if_neg z5] at h ⊢
  rw [if_neg z5]
  by_cases z6 : b 1 = 6
  · rw [if_pos z6] at h ⊢
    rw [if_pos z6]
    obtain ⟨k0, k1, k2, k3, k4, k5, k6, k7, k8, -⟩ := h
    dsimp only at k0 k1 k2 k3 k4 k5 k6 k7 k8
    simp only [List.map, rsl, k0, k1, k2, k3, k4, k5, k6, k7, k8, z]
  rw [if_neg z6] at h ⊢
  rw [if_neg z6]
  obtain ⟨k0, k1, k2, k3, k4, k5, k6, k7, k8, k9, k10, k11, k12, k13, k14, k15, k16, k17, k18, k19, -⟩ := h
  dsimp only at k0 k1 k2 k3 k4 k5 k6 k7 k8 k9 k10 k11 k12 k13 k14 k15 k16 k17 k18 k19
  simp only [List.map, rsl, k0, k1, k2, k3, k4, k5, k6, k7, k8, k9, k10, k11, k12, k13, k14, k15, k16, k17, k18, k19, z]
theorem KD_cat {kd : Nat → Int} : ∀ {a b : List Int} {i : Nat}, KD kd i a → KD kd (i + a.length) b → KD kd i (a ++ b)
  | [], b, i, _, h => h
  | x :: a, b, i, h1, h2 => ⟨h1.1, KD_cat h1.2 (by
      rw [show i + 1 + a.length = i + (x :: a).length by simp; omega]
      exact h2)⟩
section
variable {ro va : Nat → Int} {j n1 n2 n3 n4 : Nat} {f lp : TT} {bd : Int} {b : Int → Int}
theorem runB (F : FS lp n1 n2 n3 n4 bd f) (N : NM ro va j n1 n2 n3) (kr : KD ro j ((lB lp b).2.2.1 ++ [0])) (kv : KD va j ((lB lp b).2.1.map Prod.snd ++ [0])) (h1 : n4 < 12) (hN : 1 ≤ lp 1 0 ∧ lp 1 0 ≤ 7 ∧ 1 ≤ lp 2 0 ∧ lp 2 0 ≤ 7) (e2 : lp 1 0 = (n2 : Int)) (e3 : lp 2 0 = (n3 : Int)) (hb : 0 ≤ b 0 ∧ b 0 < (n2 : Int)) (e7 : lp 7 (n4 : Int) = b 0) (hlen : (tsR b).length = (tsT lp b).length) : ∃ f2, RnF ro va j f ((lB lp b).2.1.length + 1) f2 ∧ NM ro va (j + ((lB lp b).2.1.length + 1)) n1 n2 n3 ∧ FS lp n1 n2 n3 (n4 + 1) bd f2 := by
  obtain ⟨r0, r1, r2, r3⟩ := (show ro j = 4 ∧ ro (j + 1) = 11 ∧ ro (j + 1 + 1) = 0 ∧ KD ro (j + 1 + 1 + 1) (tsR b ++ [0]) from kr)
  obtain ⟨-, v1, -, v3⟩ := (show va j = 2789 ∧ va (j + 1) = nmv 112 (b 0) ∧ va (j + 1 + 1) = 1176170 ∧ KD va (j + 1 + 1 + 1) ((tsT lp b).map Prod.snd ++ [0]) from kv)
  have s0 := p4 (f := f) (va := va) r0 (by rw [F.c4]; omega)
  rw [F.c4] at s0
  have N1 := N.o (by omega)
  have s1 := p11 (f := su f 3 0 ((n4 : Int) + 1)) N1 r1 v1 hb.1 hb.2
  rw [su_eq, show (n4 : Int) + 1 - 1 = (n4 : Int) by omega] at s1
  have N2 := N1.o (by omega)
  have N3 := N2.o (by omega)
  obtain ⟨r3a, r3b⟩ := KD_app r3
  obtain ⟨v3a, -⟩ := KD_app v3
  obtain ⟨f2, s3, N4, e⟩ := seg_run (f := su (su f 3 0 ((n4 : Int) + 1)) 7 (n4 : Int) (b 0)) (ts_vm (b := b) hN e2 e3) r3a v3a N3
  have N5 := N4.o (by have := r3b.1; omega)
  have el : (lB lp b).2.1.length + 1 = 1 + 1 + 1 + (tsR b).length + 1 := by
    show (tsT lp b).length + 1 + 1 + 1 + 1 = _
    rw [hlen]
    omega
  rw [el]
  refine ⟨f2, (((s0.tr s1).tr (p0 r2)).tr s3).tr (p0 (by
    rw [show j + (1 + 1 + 1 + (tsR b).length) = j + 1 + 1 + 1 + (tsR b).length by omega]
    exact r3b.1)), ?_, ?_⟩
  · rw [show j + (1 + 1 + 1 + (tsR b).length + 1) = j + 1 + 1 + 1 + (tsR b).length + 1 by omega]
    exact N5
  · have K : ∀ k i, ¬ k = 11 → ¬ k = 3 → ¬ k = 7 → f2 k i = f k i := fun k i a b c => by
      rw [e k i a, su_ne (fun z => c z.1), su_ne (fun z => b z.1)]
    refine ⟨(K _ _ (by decide) (by decide) (by decide)).trans F.c1, (K _ _ (by decide) (by decide) (by decide)).trans F.c2, (K _ _ (by decide) (by decide) (by decide)).trans F.c3, ?_, (K _ _ (by decide) (by decide) (by decide)).trans F.b, fun i a b => (K _ _ (by decide) (by decide) (by decide)).trans (F.w i a b), fun i a b => ?_, fun v p a b c => (K _ _ (by decide) (by decide) (by decide)).trans (F.l v p a b c), fun i a c => ?_⟩
    · rw [e 3 0 (by decide), su_ne (by omega), su_eq]; omega
    · obtain ⟨q1, q2, q3⟩ := F.p i a b
      exact ⟨(K _ _ (by decide) (by decide) (by decide)).trans q1, (K _ _ (by decide) (by decide) (by decide)).trans q2, (K _ _ (by decide) (by decide) (by decide)).trans q3⟩
    · rw [e 7 i (by decide)]
      by_cases q : i = (n4 : Int)
      · rw [q, su_eq, e7]
      · rw [su_ne (by omega), su_ne (by omega)]
        exact F.k i a (by omega)
end
/-- the law's list: what it is made of -/
def LA (lp : TT) (LV : Int → List Int) (bb : Int → Int → Int) (hb : Bool) (nw np nv nb : Nat) : Prop := (lp 0 0 = (nw : Int) ∧ 1 ≤ nw ∧ nw ≤ 3) ∧ (lp 1 0 = (np : Int) ∧ 1 ≤ np ∧ np ≤ 7) ∧ (lp 2 0 = (nv : Int) ∧ 1 ≤ nv ∧ nv ≤ 7) ∧ (lp 3 0 = (nb : Int) ∧ nb ≤ 5) ∧ (∀ i, 0 ≤ i → i < (nw : Int) → 0 ≤ lp 4 i ∧ lp 4 i ≤ 4) ∧ (∀ i, 0 ≤ i → i < (np : Int) → (0 ≤ lp 5 i ∧ lp 5 i < (nw : Int)) ∧ (0 ≤ lp 6 i ∧ lp 6 i ≤ 50) ∧ 1 ≤ lp 9 i ∧ lp 9 i ≤ 999) ∧ ((0 ≤ lp 8 0 ∧ lp 8 0 ≤ 9999) ∧ (hb = false → lp 8 0 = 100)) ∧ (∀ v, 0 ≤ v → v < (nv : Int) → (∀ p ∈ LV v, 0 ≤ p ∧ p < (np : Int)) ∧ (LV v).Nodup ∧ (LV v).length ≤ 7) ∧ (∀ v p, 0 ≤ v → v < (nv : Int) → 0 ≤ p → p < 12 → lp 10 (12 * v + p) = if p ∈ LV v then 1 else 0) ∧ (∀ i, 0 ≤ i → i < (nb : Int) → lp 7 i = bb i 0 ∧ (0 ≤ bb i 0 ∧ bb i 0 < (np : Int)) ∧ (0 ≤ bb i 1 ∧ bb i 1 < 8) ∧ (0 ≤ bb i 2 ∧ bb i 2 < 20) ∧ (0 ≤ bb i 3 ∧ bb i 3 < 90) ∧ 0 ≤ bb i 4 ∧ bb i 4 < 42)
theorem LA.n0 {lp : TT} {LV : Int → List Int} {bb : Int → Int → Int} {hb : Bool} {nw np nv nb : Nat} (x : LA lp LV bb hb nw np nv nb) : lp 0 0 = (nw : Int) ∧ 1 ≤ nw ∧ nw ≤ 3 := x.1
theorem LA.n1 {lp : TT} {LV : Int → List Int} {bb : Int → Int → Int} {hb : Bool} {nw np nv nb : Nat} (x : LA lp LV bb hb nw np nv nb) : lp 1 0 = (np : Int) ∧ 1 ≤ np ∧ np ≤ 7 := x.2.1
theorem LA.n2 {lp : TT} {LV : Int → List Int} {bb : Int → Int → Int} {hb : Bool} {nw np nv nb : Nat} (x : LA lp LV bb hb nw np nv nb) : lp 2 0 = (nv : Int) ∧ 1 ≤ nv ∧ nv ≤ 7 := x.2.2.1
theorem LA.n3 {lp : TT} {LV : Int → List Int} {bb : Int → Int → Int} {hb : Bool} {nw np nv nb : Nat} (x : LA lp LV bb hb nw np nv nb) : lp 3 0 = (nb : Int) ∧ nb ≤ 5 := x.2.2.2.1
theorem LA.c {lp : TT} {LV : Int → List Int} {bb : Int → Int → Int} {hb : Bool} {nw np nv nb : Nat} (x : LA lp LV bb hb nw np nv nb) : ∀ i, 0 ≤ i → i < (nw : Int) → 0 ≤ lp 4 i ∧ lp 4 i ≤ 4 := x.2.2.2.2.1
theorem LA.p {lp : TT} {LV : Int → List Int} {bb : Int → Int → Int} {hb : Bool} {nw np nv nb : Nat} (x : LA lp LV bb hb nw np nv nb) : ∀ i, 0 ≤ i → i < (np : Int) → (0 ≤ lp 5 i ∧ lp 5 i < (nw : Int)) ∧ (0 ≤ lp 6 i ∧ lp 6 i ≤ 50) ∧ 1 ≤ lp 9 i ∧ lp 9 i ≤ 999 := x.2.2.2.2.2.1
theorem LA.b {lp : TT} {LV : Int → List Int} {bb : Int → Int → Int} {hb : Bool} {nw np nv nb : Nat} (x : LA lp LV bb hb nw np nv nb) : (0 ≤ lp 8 0 ∧ lp 8 0 ≤ 9999) ∧ (hb = false → lp 8 0 = 100) := x.2.2.2.2.2.2.1
theorem LA.l {lp : TT} {LV : Int → List Int} {bb : Int → Int → Int} {hb : Bool} {nw np nv nb : Nat} (x : LA lp LV bb hb nw np nv nb) : ∀ v, 0 ≤ v → v < (nv : Int) → (∀ p ∈ LV v, 0 ≤ p ∧ p < (np : Int)) ∧ (LV v).Nodup ∧ (LV v).length ≤ 7 := x.2.2.2.2.2.2.2.1
theorem LA.m {lp : TT} {LV : Int → List Int} {bb : Int → Int → Int} {hb : Bool} {nw np nv nb : Nat} (x : LA lp LV bb hb nw np nv nb) : ∀ v p, 0 ≤ v → v < (nv : Int) → 0 ≤ p → p < 12 → lp 10 (12 * v + p) = if p ∈ LV v then 1 else 0 := x.2.2.2.2.2.2.2.2.1
theorem LA.k {lp : TT} {LV : Int → List Int} {bb : Int → Int → Int} {hb : Bool} {nw np nv nb : Nat} (x : LA lp LV bb hb nw np nv nb) : ∀ i, 0 ≤ i → i < (nb : Int) → lp 7 i = bb i 0 ∧ (0 ≤ bb i 0 ∧ bb i 0 < (np : Int)) ∧ (0 ≤ bb i 1 ∧ bb i 1 < 8) ∧ (0 ≤ bb i 2 ∧ bb i 2 < 20) ∧ (0 ≤ bb i 3 ∧ bb i 3 < 90) ∧ 0 ≤ bb i 4 ∧ bb i 4 < 42 := x.2.2.2.2.2.2.2.2.2
def gW (lp : TT) (n : Nat) : LnT := lW (n : Int) (lp 4 (n : Int))
def gP (lp : TT) (n : Nat) : LnT := lP (n : Int) (lp 9 (n : Int)) (lp 5 (n : Int)) (lp 6 (n : Int))
def gV' (LV : Int → List Int) (n : Nat) : LnT := lV (n : Int) (LV (n : Int))
def gB (lp : TT) (bb : Int → Int → Int) (n : Nat) : LnT := lB lp (bb (n : Int))
def gU (lp : TT) (hb : Bool) : List LnT := if hb = true then [lU (lp 8 0)] else []
def AL (lp : TT) (LV : Int → List Int) (bb : Int → Int → Int) (hb : Bool) (nw np nv nb : Nat) : List LnT := grp (gW lp) nw ++ (gU lp hb ++ (grp (gP lp) np ++ (grp (gV' LV) nv ++ grp (gB lp bb) nb)))
section
variable {lp : TT} {LV : Int → List Int} {bb : Int → Int → Int} {hb : Bool} {nw np nv nb : Nat}
theorem LA.hN (a : LA lp LV bb hb nw np nv nb) : 1 ≤ lp 1 0 ∧ lp 1 0 ≤ 7 ∧ 1 ≤ lp 2 0 ∧ lp 2 0 ≤ 7 := by
  have := a.n1
  have := a.n2
  omega
theorem LA.ok (a : LA lp LV bb hb nw np nv nb) : ∀ l ∈ AL lp LV bb hb nw np nv nb, LNok l := by
  have h0 := a.n0
  have h1 := a.n1
  have h2 := a.n2
  have h3 := a.n3
  have m : ∀ (x y : List LnT), (∀ l ∈ x, LNok l) → (∀ l ∈ y, LNok l) → ∀ l ∈ x ++ y, LNok l := fun x y hx hy l hl => (List.mem_append.1 hl).elim (hx l) (hy l)
  unfold AL
  refine m _ _ (grp_mem (fun n hn => ?_)) (m _ _ ?_ (m _ _ (grp_mem (fun n hn => ?_)) (m _ _ (grp_mem (fun n hn => ?_)) (grp_mem (fun n hn => ?_)))))
  · have := a.c (n : Int) (by omega) (by omega)
    exact lW_ok (by omega) (by omega)
  · intro l hl
    unfold gU at hl
    split at hl
    · rw [List.mem_singleton] at hl
      rw [hl]
      exact lU_ok a.b.1
    · cases hl
  · have := a.p (n : Int) (by omega) (by omega)
    exact lP_ok (by omega) (by omega) (by omega) (by omega)
  · obtain ⟨l1, l2, l3⟩ := a.l (n : Int) (by omega) (by omega)
    exact lV_ok (by omega) (fun p hp => by have := l1 p hp; omega) l3
  · obtain ⟨k1, k2, k3⟩ := a.k (n : Int) (by omega) (by omega)
    exact lB_ok a.hN (by omega) k3
theorem dg_l4 {x : Int} : 1 ≤ (dg x).length ∧ (dg x).length ≤ 4 := by
  unfold dg
  split
  · simp
  · split
    · simp
    · split <;> simp
theorem lkB1_len : ∀ {L : List Int}, (lkB1 L).length ≤ 6 * L.length ∧ (lkT1 L).length = L.length
  | [] => ⟨Nat.le_refl _, rfl⟩
  | p :: L => by
    obtain ⟨i1, i2⟩ := lkB1_len (L := L)
    have d := dg_l4 (x := p)
    refine ⟨?_, ?_⟩
    · show ([32, 112] ++ dg p ++ lkB1 L).length ≤ 6 * (L.length + 1)
      simp only [List.length_append, List.length_cons, List.length_nil]
      omega
    · show (lkT1 L).length + 1 = L.length + 1
      rw [i2]
theorem tsB_len {pp : TT} {b : Int → Int} : (tsB pp b).length ≤ 62 ∧ (tsT pp b).length ≤ 20 := by
  have d1 := dg_l4 (x := b 2 % 5 + 1)
  have d2 := dg_l4 (x := b 3)
  have d3 := dg_l4 (x := b 4 % pp 1 0)
  have d4 := dg_l4 (x := b 4 % pp 2 0)
  have d5 := dg_l4 (x := b 2 % 7)
  have d6 := dg_l4 (x := b 2 % 5)
  have d7 := dg_l4 (x := b 2)
  unfold tsB tsT
  repeat' split
  all_goals simp only [List.length_append, List.length_cons, List.length_nil]
  all_goals omega
theorem LA.len (a : LA lp LV bb hb nw np nv nb) : (lts (AL lp LV bb hb nw np nv nb)).length ≤ 400 ∧ (lbs (AL lp LV bb hb nw np nv nb)).length ≤ 1900 ∧ (AL lp LV bb hb nw np nv nb).length ≤ 400 := by
  have h0 := a.n0
  have h1 := a.n1
  have h2 := a.n2
  have h3 := a.n3
  obtain ⟨w1, w2⟩ := grp_bd (g := gW lp) (x := 5) (y := 20) (N := nw) (fun n hn => by
    have d1 := dg_l4 (x := (n : Int))
    have d2 := dg_l4 (x := lp 4 (n : Int))
    refine ⟨Nat.le_refl _, ?_⟩
    show ([119, 97, 114, 100, 32, 119] ++ dg (n : Int) ++ [32, 99, 97, 112, 32] ++ dg (lp 4 (n : Int)) ++ [59]).length ≤ 20
    simp only [List.length_append, List.length_cons, List.length_nil]
    omega)
  obtain ⟨q1, q2⟩ := grp_bd (g := gP lp) (x := 9) (y := 44) (N := np) (fun n hn => by
    have d1 := dg_l4 (x := (n : Int))
    have d2 := dg_l4 (x := lp 9 (n : Int))
    have d3 := dg_l4 (x := lp 5 (n : Int))
    have d4 := dg_l4 (x := lp 6 (n : Int))
    refine ⟨Nat.le_refl _, ?_⟩
    show ([112, 114, 111, 106, 101, 99, 116, 32, 112] ++ dg (n : Int) ++ [32, 99, 111, 115, 116, 32] ++ dg (lp 9 (n : Int)) ++ [32, 105, 110, 32, 119] ++ dg (lp 5 (n : Int)) ++ [32, 103, 114, 111, 119, 115, 32] ++ dg (lp 6 (n : Int)) ++ [59]).length ≤ 44
    simp only [List.length_append, List.length_cons, List.length_nil]
    omega)
  obtain ⟨v1, v2⟩ := grp_bd (g := gV' LV) (x := 11) (y := 66) (N := nv) (fun n hn => by
    obtain ⟨l1, l2, l3⟩ := a.l (n : Int) (by omega) (by omega)
    have d1 := dg_l4 (x := (n : Int))
    show (lkT (LV (n : Int))).length + 1 + 1 + 1 ≤ 11 ∧ ([118, 111, 116, 101, 114, 32, 118] ++ dg (n : Int) ++ lkB (LV (n : Int)) ++ [59]).length ≤ 66
    generalize LV (n : Int) = L at l3 ⊢
    cases L with
    | nil =>
      refine ⟨by decide, ?_⟩
      show ([118, 111, 116, 101, 114, 32, 118] ++ dg (n : Int) ++ [] ++ [59]).length ≤ 66
      simp only [List.length_append, List.length_cons, List.length_nil]
      omega
    | cons p L =>
      obtain ⟨i1, i2⟩ := lkB1_len (L := L)
      have d2 := dg_l4 (x := p)
      have l3' : L.length + 1 ≤ 7 := l3
      refine ⟨?_, ?_⟩
      · show (lkT1 L).length + 1 + 1 + 1 + 1 + 1 ≤ 11
        omega
      · show ([118, 111, 116, 101, 114, 32, 118] ++ dg (n : Int) ++ ([32, 108, 105, 107, 101, 115, 32, 112] ++ dg p ++ lkB1 L) ++ [59]).length ≤ 66
        simp only [List.length_append, List.length_cons, List.length_nil]
        omega)
  obtain ⟨b1, b2⟩ := grp_bd (g := gB lp bb) (x := 24) (y := 80) (N := nb) (fun n hn => by
    obtain ⟨t1, t2⟩ := tsB_len (pp := lp) (b := bb (n : Int))
    have d1 := dg_l4 (x := bb (n : Int) 0)
    refine ⟨?_, ?_⟩
    · show (tsT lp (bb (n : Int))).length + 1 + 1 + 1 + 1 ≤ 24
      omega
    · show ([98, 97, 110, 32, 112] ++ dg (bb (n : Int) 0) ++ [32, 119, 104, 101, 110, 32] ++ tsB lp (bb (n : Int)) ++ [59]).length ≤ 80
      simp only [List.length_append, List.length_cons, List.length_nil]
      omega)
  have u : (lts (gU lp hb)).length ≤ 3 ∧ (lbs (gU lp hb)).length ≤ 13 ∧ (gU lp hb).length ≤ 1 := by
    unfold gU
    have d1 := dg_l4 (x := lp 8 0)
    split
    · refine ⟨Nat.le_refl _, ?_, Nat.le_refl _⟩
      show (([98, 117, 100, 103, 101, 116, 32] ++ dg (lp 8 0) ++ [59, 10]) ++ []).length ≤ 13
      simp only [List.length_append, List.length_cons, List.length_nil]
      omega
    · exact ⟨by decide, by decide, by decide⟩
  unfold AL
  rw [lts_app, lts_app, lts_app, lts_app, lbs_app, lbs_app, lbs_app, lbs_app]
  simp only [List.length_append, grp_len]
  omega
/-- what the class makes of the law's list -/
theorem LA.read (a : LA lp LV bb hb nw np nv nb) {tp : Int → Int} {tl : Int} (hy : BY tp 0 (lbs (AL lp LV bb hb nw np nv nb))) (hl : tl = ((lbs (AL lp LV bb hb nw np nv nb)).length : Int)) :
    gAll (s_kd tp tl) 400 0 = .inr ((lts (AL lp LV bb hb nw np nv nb)).length, lns (AL lp LV bb hb nw np nv nb) 0, lrs (AL lp LV bb hb nw np nv nb)) ∧
    (run (roF (lrs (AL lp LV bb hb nw np nv nb))) (s_va tp tl) (lts (AL lp LV bb hb nw np nv nb)).length 0 f00).1 = 0 ∧
    FS lp nw np nv nb (lp 8 0) (run (roF (lrs (AL lp LV bb hb nw np nv nb))) (s_va tp tl) (lts (AL lp LV bb hb nw np nv nb)).length 0 f00).2.2 ∧
    ∀ i, 0 ≤ i → i < (nb : Int) → ttF (lns (AL lp LV bb hb nw np nv nb) 0) (run (roF (lrs (AL lp LV bb hb nw np nv nb))) (s_va tp tl) (lts (AL lp LV bb hb nw np nv nb)).length 0 f00).2.2 i = oB lp (bb i) := by
  have h0 := a.n0
  have h1 := a.n1
  have h2 := a.n2
  have h3 := a.n3
  obtain ⟨len1, len2, len3⟩ := a.len
  have ok := a.ok
  have hA : AL lp LV bb hb nw np nv nb = grp (gW lp) nw ++ (gU lp hb ++ (grp (gP lp) np ++ (grp (gV' LV) nv ++ grp (gB lp bb) nb))) := rfl
  generalize AL lp LV bb hb nw np nv nb = A at *
  have lx : LX tp tl 0 (lts A) := all_lx ok tp tl 0 (by decide) hy (by omega)
  obtain ⟨kv, ke⟩ := LX_kd lx len1
  have kdA : KD (s_kd tp tl) 0 ((lts A).map Prod.fst ++ [260]) := by
    refine KD_cat ?_ ⟨?_, trivial⟩
    · have := KD_list (d := ((260 : Int), (0 : Int))) (g := Prod.fst) (m := lts A) (a := []) (b := [])
      rw [List.nil_append, List.append_nil] at this
      refine KD_cg (n := (lts A).length) (fun j hj => (kv j hj).1) ?_ this
      simp
    · rw [List.length_map, Nat.zero_add]
      exact ke
  have g1 := all_gr (kd := s_kd tp tl) ok len3 kdA
  rw [Nat.zero_add] at g1
  refine ⟨g1, ?_⟩
  have hro : ∀ pre l post, A = pre ++ l :: post → KD (roF (lrs A)) (lts pre).length (l.2.2.1 ++ [0]) ∧ KD (s_va tp tl) (lts pre).length (l.2.1.map Prod.snd ++ [0]) := by
    intro pre l post e
    have eR : lrs A = lrs pre ++ (l.2.2.1 ++ [0]) ++ lrs post := by
      rw [e, lrs_app]
      show lrs pre ++ (l.2.2.1 ++ 0 :: lrs post) = _
      simp
    have eT : lts A = lts pre ++ (l.2.1 ++ [(59, 0)]) ++ lts post := by
      rw [e, lts_app]
      show lts pre ++ (l.2.1 ++ (59, 0) :: lts post) = _
      simp
    have okp : ∀ q ∈ pre, LNok q := fun q hq => ok q (by rw [e]; exact List.mem_append_left _ hq)
    refine ⟨?_, ?_⟩
    · have := KD_list (d := (0 : Int)) (g := id) (m := l.2.2.1 ++ [0]) (a := lrs pre) (b := lrs post)
      rw [← eR, all_len okp, List.map_id] at this
      exact this
    · have := KD_list (d := ((260 : Int), (0 : Int))) (g := Prod.snd) (m := l.2.1 ++ [(59, 0)]) (a := lts pre) (b := lts post)
      rw [← eT] at this
      rw [List.map_append] at this
      refine KD_cg (n := (lts A).length) (fun j hj => (kv j hj).2) ?_ this
      rw [eT]
      simp
  generalize roF (lrs A) = ro at hro ⊢
  generalize s_va tp tl = va at hro ⊢
  -- wards
  obtain ⟨fa, xa, Na, Fa⟩ := grp_run hro (g := gW lp) (S := fun n j f => NM ro va j n 0 0 ∧ FS lp n 0 0 0 100 f) (pre := []) (post := gU lp hb ++ (grp (gP lp) np ++ (grp (gV' LV) nv ++ grp (gB lp bb) nb))) (N := nw) hA (fun n j f hn S kr kv2 => by
    have := a.c (n : Int) (by omega) (by omega)
    obtain ⟨f2, x, N, F⟩ := runW S.2 S.1 kr kv2 (by omega) (by omega)
    exact ⟨f2, x, N, F⟩) (f0 := f00) ⟨⟨rfl, rfl, rfl⟩, FS.i0⟩ nw (Nat.le_refl _)
  have la : (lts ([] : List LnT)).length = 0 := rfl
  rw [la, Nat.zero_add] at Na
  rw [la] at xa
  -- the budget
  obtain ⟨fu, xu, Nu, Fu⟩ : ∃ f, RnF ro va 0 f00 (lts (grp (gW lp) nw ++ gU lp hb)).length f ∧ NM ro va (lts (grp (gW lp) nw ++ gU lp hb)).length nw 0 0 ∧ FS lp nw 0 0 0 (lp 8 0) f := by
    cases hb with
    | false =>
      rw [show grp (gW lp) nw ++ gU lp false = grp (gW lp) nw from List.append_nil _, a.b.2 rfl]
      exact ⟨fa, xa, Na, Fa⟩
    | true =>
      obtain ⟨k1, k2⟩ := hro (grp (gW lp) nw) (lU (lp 8 0)) _ hA
      obtain ⟨f2, x, N, F⟩ := runU Fa Na k1 k2 a.b.1.2
      rw [show grp (gW lp) nw ++ gU lp true = grp (gW lp) nw ++ [lU (lp 8 0)] from rfl, lts_snoc]
      first
      | exact ⟨f2, xa.tr x, N, F⟩
      | exact ⟨f2, xa.tr (by rw [Nat.zero_add]; exact x), N, F⟩
  -- projects
  obtain ⟨fp, xp, Np, Fp⟩ := grp_run hro (g := gP lp) (S := fun n j f => NM ro va j nw n 0 ∧ FS lp nw n 0 0 (lp 8 0) f) (pre := grp (gW lp) nw ++ gU lp hb) (post := grp (gV' LV) nv ++ grp (gB lp bb) nb) (N := np) (by rw [hA, List.append_assoc]) (fun n j f hn S kr kv2 => by
    have := a.p (n : Int) (by omega) (by omega)
    obtain ⟨f2, x, N, F⟩ := runP S.2 S.1 kr kv2 (by omega) (by omega) (by omega) (by omega)
    exact ⟨f2, x, N, F⟩) (f0 := fu) ⟨Nu, Fu⟩ np (Nat.le_refl _)
  rw [← List.length_append, ← lts_app] at Np
  -- voters
  obtain ⟨fv, xv, Nv, Fv⟩ := grp_run hro (g := gV' LV) (S := fun n j f => NM ro va j nw np n ∧ FS lp nw np n 0 (lp 8 0) f) (pre := (grp (gW lp) nw ++ gU lp hb) ++ grp (gP lp) np) (post := grp (gB lp bb) nb) (N := nv) (by rw [hA]; simp only [List.append_assoc]) (fun n j f hn S kr kv2 => by
    obtain ⟨l1, l2, l3⟩ := a.l (n : Int) (by omega) (by omega)
    obtain ⟨f2, x, N, F⟩ := runV S.2 S.1 kr kv2 (by omega) (by omega) l1 l2 (fun p p0 p1 => a.m _ p (by omega) (by omega) p0 p1)
    exact ⟨f2, x, N, F⟩) (f0 := fp) ⟨Np, Fp⟩ nv (Nat.le_refl _)
  rw [← List.length_append, ← lts_app] at Nv
  -- bans
  have hA5 : A = (((grp (gW lp) nw ++ gU lp hb) ++ grp (gP lp) np) ++ grp (gV' LV) nv) ++ (grp (gB lp bb) nb ++ []) := by rw [hA]; simp only [List.append_assoc, List.append_nil]
  have rb := grp_run hro (g := gB lp bb) (S := fun n j f => NM ro va j nw np nv ∧ FS lp nw np nv n (lp 8 0) f) hA5 (fun n j f hn S kr kv2 => by
    obtain ⟨k1, k2, k3⟩ := a.k (n : Int) (by omega) (by omega)
    have lk := (lB_ok (pp := lp) (b := bb (n : Int)) a.hN (by omega) k3).ln
    have hlen : (tsR (bb (n : Int))).length = (tsT lp (bb (n : Int))).length := by
      have : (tsR (bb (n : Int))).length + 1 + 1 + 1 = (tsT lp (bb (n : Int))).length + 1 + 1 + 1 := lk
      omega
    obtain ⟨f2, x, N, F⟩ := runB S.2 S.1 kr kv2 (by omega) a.hN h1.1 h2.1 k2 k1 hlen
    exact ⟨f2, x, N, F⟩) (f0 := fv) ⟨Nv, Fv⟩
  obtain ⟨fb, xb, Nb, Fb⟩ := rb nb (Nat.le_refl _)
  have x1 := xu.tr (by rw [Nat.zero_add]; exact xp)
  have x2 := x1.tr (b := (lts (grp (gV' LV) nv)).length) (f2 := fv) (by
    rw [Nat.zero_add, ← List.length_append, ← lts_app]
    exact xv)
  have x3 := x2.tr (b := (lts (grp (gB lp bb) nb)).length) (f2 := fb) (by
    rw [Nat.zero_add, ← List.length_append, ← lts_app, ← List.length_append, ← lts_app]
    exact xb)
  rw [← List.length_append, ← lts_app, ← List.length_append, ← lts_app, ← List.length_append, ← lts_app, show ((grp (gW lp) nw ++ gU lp hb) ++ grp (gP lp) np ++ grp (gV' LV) nv ++ grp (gB lp bb) nb) = A by rw [hA5, List.append_nil]] at x3
  have er : run ro va (lts A).length 0 f00 = (0, (lts A).length, fb) := by
    have := x3 0
    rw [Nat.zero_add] at this
    exact this
  rw [er]
  refine ⟨rfl, Fb, fun i i0 i1 => ?_⟩
  -- what the tests say
  have mf0 : MF ro va f00 0 := fun k => by rw [if_neg (by omega)]; rfl
  have mf := MF.goo mf0 (n := (lts A).length) (by rw [er])
  rw [er, Nat.zero_add] at mf
  dsimp only at mf
  have z0 : fb 11 0 = 0 := by
    have q := mf 0
    have kr0 : ro 0 = 0 := by
      obtain ⟨post, hp⟩ := grp_pre (g := gW lp) (n := 0) (N := nw) (by omega)
      have e : A = [] ++ gW lp 0 :: (post ++ (gU lp hb ++ (grp (gP lp) np ++ (grp (gV' LV) nv ++ grp (gB lp bb) nb)))) := by
        rw [hA, hp]
        rfl
      exact (hro _ _ _ e).1.1
    have q' : fb 11 ((0 : Nat) : Int) = 0 := by
      rw [q, kr0]
      split <;> rfl
    exact q'
  obtain ⟨n, en⟩ : ∃ n : Nat, i = (n : Int) := ⟨i.toNat, by omega⟩
  subst en
  obtain ⟨fn, xn, Nn, Fn⟩ := rb n (by omega)
  obtain ⟨post, hp⟩ := grp_pre (g := gB lp bb) (n := n) (N := nb) (by omega)
  have e : A = ((((grp (gW lp) nw ++ gU lp hb) ++ grp (gP lp) np) ++ grp (gV' LV) nv) ++ grp (gB lp bb) n) ++ gB lp bb n :: post := by
    rw [hA5, hp]
    simp only [List.append_assoc, List.append_nil]
  obtain ⟨k1, k2⟩ := hro _ _ _ e
  rw [lts_app, List.length_append] at k1 k2
  have eL : (lns A 0).getD n (0, []) = ((lts (((grp (gW lp) nw ++ gU lp hb) ++ grp (gP lp) np) ++ grp (gV' LV) nv)).length + (lts (grp (gB lp bb) n)).length, tsO (bb (n : Int)) ((lts (((grp (gW lp) nw ++ gU lp hb) ++ grp (gP lp) np) ++ grp (gV' LV) nv)).length + (lts (grp (gB lp bb) n)).length + 1 + 1 + 1)) := by
    have el : ∀ N i, (lns (grp (gB lp bb) N) i).length = N := by
      intro N
      induction N with
      | zero => intro i; rfl
      | succ N ih =>
        intro i
        show (lns (grp (gB lp bb) N ++ [gB lp bb N]) i).length = N + 1
        rw [lns_app, List.length_append, ih]
        rfl
    have e0 : ∀ i, lns (((grp (gW lp) nw ++ gU lp hb) ++ grp (gP lp) np) ++ grp (gV' LV) nv) i = [] := by
      intro i
      rw [lns_app, lns_app, lns_app, grp_lns (fun _ _ => rfl), grp_lns (g := gP lp) (fun _ _ => rfl), grp_lns (g := gV' LV) (fun _ _ => rfl)]
      show [] ++ lns (gU lp hb) _ ++ [] ++ [] = []
      unfold gU
      split <;> rfl
    rw [e, lns_app, lns_app, e0, List.nil_append, List.getD_eq_getElem?_getD, List.getElem?_append_right (by rw [el]; exact Nat.le_refl _), el, Nat.sub_self, lts_app, List.length_append, Nat.zero_add]
    rfl
  have ei : ((n : Int)).toNat = n := by omega
  unfold ttF
  rw [ei, eL]
  obtain ⟨r0, r1, r2, r3⟩ := k1
  obtain ⟨w0, w1, w2, w3⟩ := k2
  generalize hj : (lts (((grp (gW lp) nw ++ gU lp hb) ++ grp (gP lp) np) ++ grp (gV' LV) nv)).length + (lts (grp (gB lp bb) n)).length = j at *
  have r3' : KD ro (j + 1 + 1 + 1) (tsR (bb (n : Int)) ++ [0]) := r3
  have w3' : KD va (j + 1 + 1 + 1) ((tsT lp (bb (n : Int))).map Prod.snd ++ [0]) := w3
  have r0' : ro j = 4 := r0
  have r1' : ro (j + 1) = 11 := r1
  have r2' : ro (j + 1 + 1) = 0 := r2
  have N3 := ((Nn.o (by omega)).o (by omega)).o (by omega)
  have hE : j + 1 + 1 + 1 + (tsR (bb (n : Int))).length ≤ (lts A).length := by
    obtain ⟨k1, k2, k3⟩ := a.k (n : Int) (by omega) (by omega)
    have lk := (lB_ok (pp := lp) (b := bb (n : Int)) a.hN (by omega) k3).ln
    have lk' : (tsR (bb (n : Int))).length + 1 + 1 + 1 = (tsT lp (bb (n : Int))).length + 1 + 1 + 1 := lk
    rw [e, lts_app, List.length_append, lts_app, List.length_append, hj]
    show _ ≤ _ + ((309, 2789) :: (256, nmv 112 (bb (n : Int) 0)) :: (310, 1176170) :: tsT lp (bb (n : Int)) ++ (59, 0) :: lts post).length
    simp only [List.length_append, List.length_cons]
    omega
  exact ts_mean z0 (seg_mean mf (ts_vm (b := bb (n : Int)) a.hN h1.1 h2.1) (KD_app r3').1 (KD_app w3').1 N3 hE)
end
