/-! ===== the reference: keywords by their bytes ===== -/
theorem c11 {d : Nat} {h : AH} {i n : Int} {y : AV} {K : AK} (hy : y = (11, 0)) (h0 : 0 ≤ i) (h1 : i < n) (k : K 0 i h) : am_call d 11 [(0, i), (0, n), y] h K := by
  subst hy
  exact v11 ⟨fun z => absurd z (by omega), fun _ => ⟨fun _ => k, fun z => absurd h1 z⟩⟩
theorem c1 {d : Nat} {h : AH} {i n : Int} {K : AK} (h0 : 0 ≤ i) (h1 : i < n) (k : K 0 0 h) : am_call (d + 1) 1 [(0, i), (0, n)] h K := v1 (c11 rfl h0 h1 k)
def s_tc (j i : Int) : Int := am_i2c (am_and (am_tb j i) 255)
theorem s_tc_rg {j i : Int} : 0 ≤ s_tc j i ∧ s_tc j i < 65536 := by
  unfold s_tc am_i2c
  omega
theorem c8 {d : Nat} {h : AH} {j i : Int} {K : AK} (h0 : 0 ≤ i) (h1 : i < am_tn j) (k : K 0 (s_tc j i) h) : am_call (d + 2) 8 [(7, j), (0, i)] h K :=
  v8 (c1 h0 h1 ⟨⟨h0, h1⟩, s_tc_rg, k⟩)
theorem c0 {d : Nat} {h : AH} {j i : Int} {K : AK} (h0 : 0 ≤ i) (h1 : i < am_tn j) (k : K 0 (s_tc j i) h) : am_call (d + 3) 0 [(5, j), (0, i)] h K :=
  v0 (c5 ⟨fun z => absurd z (by decide), fun _ => c8 h0 h1 ⟨s_tc_rg, k⟩⟩)
theorem tn_kw : ∀ w : Nat, w < 22 → 0 ≤ am_tn (3 + (w : Int)) ∧ am_tn (3 + (w : Int)) < 2147483648 := by decide
def s_eqf (tp : Int → Int) (j p : Int) : Nat → Int → Bool
  | 0, _ => true
  | n + 1, i => if s_tc j i = tp (p + i) then s_eqf tp j p n (i + 1) else false
def s_kb (tp : Int → Int) (p e : Int) : Nat → Int → Int
  | 0, _ => 40
  | n + 1, w => if am_tn (3 + w) = e ∧ s_eqf tp (3 + w) p e.toNat 0 = true then w else s_kb tp p e n (w + 1)
theorem c164 {d : Nat} {h : AH} {pp ss : TT} {tt : Int → List Op} {tp : Int → Int} {tl er q p e : Int} {K : AK} (g : GM h pp ss tt tl tp er q) (h0 : 0 ≤ p) (e0 : 0 ≤ e) (h1 : p + e ≤ tl) (k : K 0 (s_kb tp p e 22 0) h) : am_call (d + 4) 164 [(2, 53), (0, p), (0, e)] h K := by
  have tb := g.tb
  refine v164 ?_
  suffices H : ∀ n : Nat, ∀ w : Nat, w + n = 22 → s_kb tp p e n (w : Int) = s_kb tp p e 22 0 → ∀ y4 y5, WP (d + 4) 164 (2, [(2, 53), (0, p), (0, e), (0, (w : Int)), y4, y5], [], h, 0, 0) K from H 22 0 rfl rfl _ _
  intro n
  induction n with
  | zero =>
    intro w hw es y4 y5
    refine v164_2 ⟨fun z => absurd z (by omega), fun _ => ?_⟩
    rw [← es] at k
    exact k
  | succ n ih =>
    intro w hw es y4 y5
    have eu : s_kb tp p e (n + 1) (w : Int) = if am_tn (3 + (w : Int)) = e ∧ s_eqf tp (3 + (w : Int)) p e.toNat 0 = true then (w : Int) else s_kb tp p e n ((w : Int) + 1) := rfl
    rw [eu] at es
    have nx : ¬ (am_tn (3 + (w : Int)) = e ∧ s_eqf tp (3 + (w : Int)) p e.toNat 0 = true) → ∀ y4 y5, WP (d + 4) 164 (2, [(2, 53), (0, p), (0, e), (0, w32 ((w : Int) + 1)), y4, y5], [], h, 0, 0) K := fun z y4 y5 => by
      rw [if_neg z] at es
      rw [w32_nat (by omega)]
      exact ih (w + 1) (by omega) es y4 y5
    refine v164_2 ⟨fun _ => ⟨⟨by omega, by omega⟩, c6 (tn_kw w (by omega)) ?_⟩, fun z => absurd (show (w : Int) < 22 by omega) z⟩
    show _ ∧ _
    refine ⟨fun z => ?_, fun z => ?_⟩
    · suffices H2 : ∀ m : Nat, ∀ i : Nat, i + m = e.toNat → s_eqf tp (3 + (w : Int)) p m (i : Int) = s_eqf tp (3 + (w : Int)) p e.toNat 0 → WP (d + 4) 164 (32, [(2, 53), (0, p), (0, e), (0, (w : Int)), (0, 1), (0, (i : Int))], [], h, 0, 0) K from H2 _ 0 (Nat.zero_add _) rfl
      intro m
      induction m with
      | zero =>
        intro i hi eq
        refine v164_32 ⟨fun y => absurd y (by decide), fun _ => ⟨fun y => absurd y (by omega), fun _ => ⟨fun y => absurd y (by decide), fun _ => ?_⟩⟩⟩
        rw [if_pos ⟨z, eq.symm⟩] at es
        rw [← es] at k
        exact k
      | succ m ih2 =>
        intro i hi eq
        have ev : s_eqf tp (3 + (w : Int)) p (m + 1) (i : Int) = if s_tc (3 + (w : Int)) (i : Int) = tp (p + (i : Int)) then s_eqf tp (3 + (w : Int)) p m ((i : Int) + 1) else false := rfl
        rw [ev] at eq
        have em : am_m h 54 (p + (i : Int)) = tp (p + (i : Int)) := g.tm _ (by omega) (by omega)
        refine v164_32 ⟨fun y => absurd y (by decide), fun _ => ⟨fun _ => ⟨⟨by omega, by omega⟩, c0 (by omega) (by omega) ?_⟩, fun y => absurd (show (i : Int) < e by omega) y⟩⟩
        show _ ∧ _
        simp only [g.c.M.t, g.c.M.f1, g.c.M.t1, g.c.M.l1, true_and]
        rw [show (53 : Int) + 1 = 54 from rfl, w32_id (x := p + (i : Int)) (by omega) (by omega), em, w32_nat (by omega)]
        refine ⟨⟨by omega, by omega⟩, fun y => ?_, fun y => ?_⟩
        · rw [if_pos y] at eq
          exact ih2 (i + 1) (by omega) eq
        · rw [if_neg y] at eq
          refine v164_32 ⟨fun _ => ⟨fun _ => nx (fun u => ?_) _ _, fun u => absurd rfl u⟩, fun u => absurd rfl u⟩
          rw [← eq] at u
          exact absurd u.2 (by decide)
    · exact v164_32 ⟨fun _ => ⟨fun _ => nx (fun u => z u.1) _ _, fun u => absurd rfl u⟩, fun u => absurd rfl u⟩
