/-! ===== the least share, by purses in order ===== -/
theorem sm_tail {F : Int → Int} {c : Int} {k : Nat} : ∀ {n : Nat}, k ≤ n → (∀ i : Nat, k ≤ i → i < n → F (i : Int) = c) → sm F n = sm F k + c * ((n : Int) - (k : Int))
  | 0, h1, _ => by
    obtain rfl : k = 0 := by omega
    simp
  | n + 1, h1, h2 => by
    by_cases e : k = n + 1
    · rw [e]; simp
    · show sm F n + F (n : Int) = _
      rw [sm_tail (n := n) (by omega) (fun i a b => h2 i a (by omega)), h2 n (by omega) (by omega), show ((n + 1 : Nat) : Int) - (k : Int) = ((n : Int) - (k : Int)) + 1 by omega, Int.mul_add, Int.mul_one]
      omega
/-- purses a in order, cost c: where the search ends is the least share -/
theorem share_up {a : Int → Int} {n k : Nat} {t : Int} (hk : k < n) (so : ∀ p q, 0 ≤ p → p ≤ q → q < (n : Int) → a p ≤ a q) (ht1 : ∀ i : Nat, i < k → a (i : Int) ≤ t) (ht2 : t ≤ a (k : Int)) : sm (fun i => min t (a i)) n = sm a k + t * ((n : Int) - (k : Int)) := by
  rw [sm_tail (F := fun i => min t (a i)) (c := t) (k := k) (by omega) (fun i h0 h1 => by
    have := so (k : Int) (i : Int) (by omega) (by omega) (by omega)
    show min t (a (i : Int)) = t
    omega)]
  rw [sm_congr (f := fun i => min t (a i)) (g := a) (fun i hi => by
    have := ht1 i hi
    show min t (a (i : Int)) = a (i : Int)
    omega)]
theorem share_lo {a : Int → Int} {n k : Nat} {x : Int} (hk : k ≤ n) : sm (fun i => min x (a i)) n ≤ sm a k + x * ((n : Int) - (k : Int)) := by
  have h1 : sm (fun i => min x (a i)) n ≤ sm (fun i => if i < (k : Int) then a i else x) n := sm_mono (fun i hi => by
    show min x (a (i : Int)) ≤ if (i : Int) < (k : Int) then a (i : Int) else x
    by_cases e : (i : Int) < (k : Int)
    · rw [if_pos e]; omega
    · rw [if_neg e]; omega)
  rw [sm_tail (F := fun i => if i < (k : Int) then a i else x) (c := x) (k := k) hk (fun i h0 h1 => if_neg (by omega)), sm_congr (f := fun i => if i < (k : Int) then a i else x) (g := a) (fun i hi => if_pos (by omega))] at h1
  exact h1
/-- sums over the purses of fans, in the order of voters and in the row -/
def f_g (ss : TT) (p : Int) (g : Int → Int) (v : Int) : Int := if ss 9 (12 * v + p) = 0 then 0 else g (ss 4 v)
theorem sh_cf {ss : TT} {p : Int} : f_cf ss p = f_g ss p (fun y => y) := rfl
theorem sh_tg {ss : TT} {p x : Int} : f_tg ss p x = f_g ss p (fun y => min x y) := rfl
/-- the search's end: what was paid before, what is left, and the share -/
theorem share_eq {pp ss : TT} {p : Int} {a : Int → Int} {n k : Nat} {left : Int} (hc : 1 ≤ ss 6 p) (hk : k < n) (so : ∀ p q, 0 ≤ p → p ≤ q → q < (n : Int) → a p ≤ a q) (a0 : ∀ i : Nat, i < n → 0 ≤ a (i : Int) ∧ a (i : Int) ≤ 9999)
    (g : ∀ g : Int → Int, sm (fun i => g (a i)) n = sm (f_g ss p g) (pp 2 0).toNat) (hl : left = ss 6 p - sm a k) (hp : ∀ i : Nat, i < k → a (i : Int) * ((n : Int) - (k : Int)) < left) (h0 : 1 ≤ left) (he : left ≤ a (k : Int) * ((n : Int) - (k : Int))) :
    s_sh pp ss p = (left + ((n : Int) - (k : Int)) - 1) / ((n : Int) - (k : Int)) := by
  have hm : 0 < (n : Int) - (k : Int) := by omega
  have up := fun t => share_up (a := a) (n := n) (k := k) (t := t) hk so
  have lo := fun x => share_lo (a := a) (n := n) (k := k) (x := x) (by omega)
  generalize (n : Int) - (k : Int) = m at hm hp he up lo ⊢
  have q1 := Int.mul_ediv_add_emod (left + m - 1) m
  have q2 := Int.emod_nonneg (left + m - 1) (show m ≠ 0 by omega)
  have q3 := Int.emod_lt_of_pos (left + m - 1) hm
  generalize (left + m - 1) / m = t at q1 ⊢
  generalize (left + m - 1) % m = r at q1 q2 q3
  rw [Int.mul_comm] at q1
  have t1 : left ≤ t * m := by omega
  have t2 : t * m ≤ left + m - 1 := by omega
  have tp : 1 ≤ t := by
    rcases Int.lt_or_le t 1 with z | z
    · have : t * m ≤ 0 * m := Int.mul_le_mul_of_nonneg_right (by omega) (by omega)
      omega
    · exact z
  have tk : t ≤ a (k : Int) := by
    rcases Int.lt_or_le (a (k : Int)) t with z | z
    · have : (a (k : Int) + 1) * m ≤ t * m := Int.mul_le_mul_of_nonneg_right (by omega) (by omega)
      rw [Int.add_mul, Int.one_mul] at this
      omega
    · exact z
  have ti : ∀ i : Nat, i < k → a (i : Int) ≤ t := fun i hi => by
    have h3 := hp i hi
    rcases Int.lt_or_le t (a (i : Int)) with z | z
    · have : t * m ≤ a (i : Int) * m := Int.mul_le_mul_of_nonneg_right (by omega) (by omega)
      omega
    · exact z
  have e : ∀ x, s_tg pp ss p x = sm (fun i => min x (a i)) n := fun x => (g (fun y => min x y)).symm
  refine s_sh_eq tp (by have := (a0 k hk).2; omega) ?_ (fun x x0 x1 => ?_)
  · rw [e, up t ti tk]
    omega
  · rw [e]
    have h4 := lo x
    have : x * m ≤ (t - 1) * m := Int.mul_le_mul_of_nonneg_right (by omega) (by omega)
    rw [Int.sub_mul, Int.one_mul] at this
    omega
theorem sm_upto {f : Int → Int} {k : Nat} : ∀ {n : Nat}, k ≤ n → (∀ i : Nat, 0 ≤ f (i : Int)) → sm f k ≤ sm f n
  | 0, h, _ => by rw [show k = 0 by omega]; exact Int.le_refl _
  | n + 1, h, hf => by
    by_cases e : k = n + 1
    · rw [e]; exact Int.le_refl _
    · have := sm_upto (k := k) (n := n) (by omega) hf
      have := hf n
      show _ ≤ sm f n + f (n : Int)
      omega
/-- the search through the purses in order -/
theorem s162_91 {d : Nat} {h : AH} {w p : Int} {n : Nat} {pp ss : TT} {K : AK} {y0 y1 y3 : AV} {nc ns : Nat} (hn : n ≤ 40) (t : am_t h w = 20) (l : am_l h w = (n : Int)) (hc : 1 ≤ ss 6 p ∧ ss 6 p ≤ 9999) (so : ∀ p q, 0 ≤ p → p ≤ q → q < (n : Int) → am_m h w p ≤ am_m h w q) (a0 : ∀ i : Nat, i < n → 0 ≤ am_m h w (i : Int) ∧ am_m h w (i : Int) ≤ 9999)
    (g : ∀ g : Int → Int, sm (fun i => g (am_m h w i)) n = sm (f_g ss p g) (pp 2 0).toNat) (rich : ss 6 p ≤ sm (am_m h w) n) (k : K 0 (s_sh pp ss p) h) :
    ∀ (r i : Nat) (left : Int) (y6 : AV), i + r = n → left = ss 6 p - sm (am_m h w) i → (∀ j : Nat, j < i → am_m h w (j : Int) * ((n : Int) - (i : Int)) < left) → 1 ≤ left → WP (d + 1) 162 (91, [y0, y1, (2, w), y3, (0, left), (0, (i : Int)), y6], [], h, nc, ns) K := by
  intro r
  induction r with
  | zero =>
    intro i left y6 hi hl hp h1
    obtain rfl : i = n := by omega
    omega
  | succ r ih =>
    intro i left y6 hi hl hp h1
    have hin : i < n := by omega
    have ha := a0 i hin
    have sb : 0 ≤ sm (am_m h w) i := (sm_bd (B := 9999) (fun j hj => a0 j (by omega))).1
    have hprod : 0 ≤ am_m h w (i : Int) * ((n : Int) - (i : Int)) ∧ am_m h w (i : Int) * ((n : Int) - (i : Int)) ≤ 9999 * 40 := ⟨Int.mul_nonneg ha.1 (by omega), Int.mul_le_mul ha.2 (by omega) (by omega) (by decide)⟩
    have eq := fun he => share_eq (pp := pp) (ss := ss) (p := p) (a := am_m h w) (n := n) (k := i) (left := left) hc.1 hin so a0 g hl hp h1 he
    have w1 : w32 ((n : Int) - (i : Int)) = (n : Int) - (i : Int) := w32_id (by omega) (by omega)
    have w2 : w32 (am_m h w (i : Int) * ((n : Int) - (i : Int))) = am_m h w (i : Int) * ((n : Int) - (i : Int)) := w32_id (by omega) (by omega)
    have w3 : w32 (left - am_m h w (i : Int)) = left - am_m h w (i : Int) := w32_id (by omega) (by omega)
    have w4 : w32 ((i : Int) + 1) = ((i + 1 : Nat) : Int) := by rw [w32_id (by omega) (by omega)]; omega
    have w5 : w32 (left + ((n : Int) - (i : Int))) = left + ((n : Int) - (i : Int)) := by
      clear w1 w2 w3 w4
      exact w32_id (by omega) (by omega)
    have w6 : w32 (left + ((n : Int) - (i : Int)) - 1) = left + ((n : Int) - (i : Int)) - 1 := by
      clear w1 w2 w3 w4 w5
      exact w32_id (by omega) (by omega)
    refine v162_91 ?_
    rw [l, w1, w2, w3, w4, w5, w6, t]
    clear w1 w2 w3 w4 w5 w6
    refine ⟨by decide, fun _ => ⟨by decide, ⟨rfl, by omega, by omega⟩, fun z => ⟨⟨rfl, by omega, by omega⟩, ?_⟩, fun z => ⟨by omega, ?_⟩⟩, fun z => absurd (show (i : Int) < (n : Int) by omega) z⟩
    · have hs : am_m h w (i : Int) * ((n : Int) - ((i + 1 : Nat) : Int)) < left - am_m h w (i : Int) := by
        rw [show (n : Int) - ((i + 1 : Nat) : Int) = ((n : Int) - (i : Int)) - 1 by omega, Int.mul_sub, Int.mul_one]
        omega
      refine ih (i + 1) _ _ (by omega) ?_ (fun j hj => ?_) ?_
      · show _ = ss 6 p - (sm (am_m h w) i + am_m h w (i : Int))
        omega
      · have := so (j : Int) (i : Int) (by omega) (by omega) (by omega)
        have := Int.mul_le_mul_of_nonneg_right this (show 0 ≤ (n : Int) - ((i + 1 : Nat) : Int) by omega)
        omega
      · have := Int.mul_nonneg ha.1 (show 0 ≤ (n : Int) - ((i + 1 : Nat) : Int) by omega)
        omega
    · have hm : 0 < (n : Int) - (i : Int) := by omega
      have b1 := Int.ediv_nonneg (show 0 ≤ left + ((n : Int) - (i : Int)) - 1 by omega) (show 0 ≤ (n : Int) - (i : Int) by omega)
      have b2 := Int.ediv_le_self ((n : Int) - (i : Int)) (show 0 ≤ left + ((n : Int) - (i : Int)) - 1 by omega)
      have e := eq (by omega)
      rw [Int.tdiv_eq_ediv_of_nonneg (by omega), w32_id (by omega) (by omega), ← e]
      exact k
theorem FP.nw {a v : Int} {h h1 h2 : AH} (x : FP a v h h1) (y : FP a v h1 h2) : FP a v h h2 := x.tr (Or.inl rfl) y
theorem s162 {d : Nat} {h : AH} {a p : Int} {A pp ss : TT} {bb : Int → Int → Int} {K : AK} (c : SM h a A pp ss bb) (h0 : 0 ≤ p) (h1 : p < pp 1 0) (n0 : 0 ≤ am_n h) (k : ∀ h2, FP (am_n h) (am_n h) h h2 → am_n h2 ≤ am_n h + 1 → K 0 (s_sh pp ss p) h2) : am_call (d + 4) 162 [(2, a), (0, p)] h K := by
  have hN := c.p1
  obtain ⟨q1, q2, q3, q4, -⟩ := c.p p h0 h1
  have hc := (c.si.2.2.2.2.1 p h0 h1).1
  have hnf := c.nf (p := p) (pp 2 0).toNat
  have tg : s_tg pp ss p 9999 = s_cf pp ss p := sm_congr (fun i hi => by
    have := (c.si.2.2.2.1 (i : Int) (by omega) (by omega)).2
    unfold f_tg f_cf
    by_cases z : ss 9 (12 * (i : Int) + p) = 0
    · rw [if_pos z, if_pos z]
    · rw [if_neg z, if_neg z]; omega)
  refine v162 ⟨c.t, s157 c h0 h1 (okx ⟨c.t, ?_⟩)⟩
  rw [c.m5, c.pt, c.pl, q1, q2, q3, q4]
  refine ⟨⟨Or.inl rfl, h0, h1⟩, ⟨rfl, by decide, by decide⟩, fun z => ?_, fun z => ⟨c.t, s156 c h0 h1 (okx ⟨⟨⟨⟨?_, ?_⟩, Or.inr n0⟩, by decide, ?_⟩, by omega, ?_⟩)⟩⟩
  · have := k h FP.rf (by omega)
    unfold s_sh at this
    rw [if_pos (by rw [tg]; exact z)] at this
    exact this
  · unfold s_nf; omega
  · unfold s_nf; omega
  · unfold s_nf; omega
  have hsn : s_nf pp ss p = sm (f_nf ss p) (pp 2 0).toNat := rfl
  generalize hw : am_n h = w at k ⊢
  have f0 : FP w w h (am_a h 20 (s_nf pp ss p) (fun _ => 0)) := FP.al FP.rf
  have t0 : am_t (am_a h 20 (s_nf pp ss p) (fun _ => 0)) w = 20 := by rw [am_t_a, if_pos hw.symm]
  have l0 : am_l (am_a h 20 (s_nf pp ss p) (fun _ => 0)) w = s_nf pp ss p := by rw [am_l_a, if_pos hw.symm]
  have nn0 : am_n (am_a h 20 (s_nf pp ss p) (fun _ => 0)) = w + 1 := by rw [am_n_a, hw]
  generalize am_a h 20 (s_nf pp ss p) (fun _ => 0) = h9 at f0 t0 l0 nn0 ⊢
  generalize 0 + (s_nf pp ss p).toNat = ns
  refine lp_in (S := AH) (fun n g => (31, [(2, a), (0, p), (2, w), (0, sm (f_nf ss p) n), (0, (n : Int)), (9, 0), (9, 0)], [], g, 1, ns))
    (fun n g => FP w w h g ∧ am_t g w = 20 ∧ am_l g w = s_nf pp ss p ∧ am_n g = w + 1 ∧ (∀ i : Nat, (i : Int) < sm (f_nf ss p) n → 0 ≤ am_m g w (i : Int) ∧ am_m g w (i : Int) ≤ 9999) ∧ ∀ u : Int → Int, sm (fun i => u (am_m g w i)) (sm (f_nf ss p) n).toNat = sm (f_g ss p u) n) (pp 2 0).toNat (fun n g hn I nx => ?_) (fun g I => ?_) h9 ⟨f0, t0, l0, nn0, fun i hi => absurd hi (by show ¬ ((i : Int) < 0); omega), fun _ => rfl⟩
  · obtain ⟨f1, t1, l1, n1, r1, g1⟩ := I
    have cg := c.fp f1 (by omega) (by omega)
    obtain ⟨e1, e2, e3, e4⟩ := cg.l (n : Int) (by omega) (by omega)
    obtain ⟨g1', g2', g3', g4', -⟩ := cg.v (n : Int) (by omega) (by omega)
    have e5 := e4 p h0 h1
    have h9' := cg.s9 (12 * (n : Int) + p)
    have hq := cg.si.2.2.2.1 (n : Int) (by omega) (by omega)
    have hb := cg.nf (p := p) n
    have st : sm (f_nf ss p) (n + 1) = sm (f_nf ss p) n + ss 9 (12 * (n : Int) + p) := rfl
    have up := sm_upto (f := f_nf ss p) (k := n + 1) (n := (pp 2 0).toNat) (by omega) (fun i => by have := cg.s9 (12 * (i : Int) + p); unfold f_nf; omega)
    have gs : ∀ u : Int → Int, sm (f_g ss p u) (n + 1) = sm (f_g ss p u) n + (if ss 9 (12 * (n : Int) + p) = 0 then 0 else u (ss 4 (n : Int))) := fun u => rfl
    refine v162_31 ?_
    rw [cg.t, cg.m6, cg.m7, e1, e2, e3, e5, cg.lt, cg.ll, cg.vt, cg.vl, g1', g2', g3', g4', t1, l1]
    rw [show w32 ((n : Int) + 1) = ((n + 1 : Nat) : Int) by rw [w32_id (by omega) (by omega)]; omega]
    refine ⟨rfl, by decide, fun _ => ⟨rfl, ⟨Or.inr rfl, by omega, by omega⟩, ⟨rfl, h0, h1⟩, fun z => ?_, fun z => ⟨rfl, ⟨Or.inl rfl, by omega, by omega⟩, ⟨rfl, by decide, by decide⟩, ⟨rfl, by omega, by omega⟩, ?_⟩⟩, fun z => absurd (show (n : Int) < pp 2 0 by omega) z⟩
    · have := nx g ⟨f1, t1, l1, n1, fun i hi => r1 i (by omega), fun u => by rw [gs, if_pos z, st, z, Int.add_zero, Int.add_zero]; exact g1 u⟩
      rw [st, z, Int.add_zero] at this
      exact this
    · have z1 : ss 9 (12 * (n : Int) + p) = 1 := by omega
      rw [show w32 (sm (f_nf ss p) n + 1) = sm (f_nf ss p) (n + 1) by rw [w32_id (by omega) (by omega), st, z1]]
      refine nx _ ⟨f1.w, t1, l1, n1, fun i hi => ?_, fun u => ?_⟩
      · rw [am_m_w]
        by_cases e : (i : Int) = sm (f_nf ss p) n
        · rw [if_pos ⟨rfl, e⟩]; exact hq
        · rw [if_neg (fun y => e y.2)]; exact r1 i (by omega)
      · rw [gs, if_neg z, ← g1 u, st, z1, show (sm (f_nf ss p) n + 1).toNat = (sm (f_nf ss p) n).toNat + 1 by omega]
        show sm _ (sm (f_nf ss p) n).toNat + u (am_m _ w (((sm (f_nf ss p) n).toNat : Nat) : Int)) = _
        rw [am_m_w, if_pos ⟨rfl, by omega⟩]
        congr 1
        exact sm_congr (fun i hi => by
          show u (am_m _ w (i : Int)) = _
          rw [am_m_w, if_neg (fun y => by omega)])
  · obtain ⟨f1, t1, l1, n1, r1, g1⟩ := I
    rw [← hsn] at g1 r1
    have cg := c.fp f1 (by omega) (by omega)
    refine v162_31 ?_
    rw [cg.t, cg.m6, cg.vt, cg.vl]
    refine ⟨rfl, by decide, fun z => absurd z (by omega), fun _ => d150 (n := (s_nf pp ss p).toNat) (by omega) t1 (by rw [l1]; omega) (fun h3 so hs => okx ?_)⟩
    have f3 : FP w w h h3 := f1.nw so.fp
    have c3 := c.fp f3 (by omega) (by omega)
    obtain ⟨x1, x2, x3, x4, -⟩ := c3.p p h0 h1
    rw [c3.m5, c3.pt, c3.pl, x1, x2, x3, x4]
    have gg : ∀ u : Int → Int, sm (fun i => u (am_m h3 w i)) (s_nf pp ss p).toNat = sm (f_g ss p u) (pp 2 0).toNat := fun u => (so.g u).trans (g1 u)
    refine ⟨c3.t, ⟨Or.inl rfl, h0, h1⟩, ⟨rfl, by decide, by decide⟩, ?_⟩
    have bd : ∀ i : Nat, i < (s_nf pp ss p).toNat → 0 ≤ am_m h3 w (i : Int) ∧ am_m h3 w (i : Int) ≤ 9999 := by
      intro i hi
      have u0 : ∀ y : Int, 0 ≤ (if 0 ≤ y ∧ y ≤ 9999 then (0 : Int) else 1) := fun y => by
        by_cases e : 0 ≤ y ∧ y ≤ 9999
        · rw [if_pos e]; exact Int.le_refl _
        · rw [if_neg e]; decide
      have e1 := gg (fun y => if 0 ≤ y ∧ y ≤ 9999 then 0 else 1)
      have e2 : sm (f_g ss p (fun y => if 0 ≤ y ∧ y ≤ 9999 then 0 else 1)) (pp 2 0).toNat = 0 := sm_zero (n := 0) (Nat.zero_le _) (fun v _ hv => by
        have hq := c.si.2.2.2.1 (v : Int) (by omega) (by omega)
        unfold f_g
        by_cases z : ss 9 (12 * (v : Int) + p) = 0
        · rw [if_pos z]
        · rw [if_neg z]
          exact if_pos hq)
      rw [e2] at e1
      have e3 := sm_upto (f := fun i => if 0 ≤ am_m h3 w i ∧ am_m h3 w i ≤ 9999 then (0 : Int) else 1) (k := i + 1) (n := (s_nf pp ss p).toNat) (by omega) (fun j => u0 _)
      have e4 := sm_upto (f := fun i => if 0 ≤ am_m h3 w i ∧ am_m h3 w i ≤ 9999 then (0 : Int) else 1) (k := 0) (n := i) (by omega) (fun j => u0 _)
      by_cases e : 0 ≤ am_m h3 w (i : Int) ∧ am_m h3 w (i : Int) ≤ 9999
      · exact e
      · exfalso
        have e5 : sm (fun i => if 0 ≤ am_m h3 w i ∧ am_m h3 w i ≤ 9999 then (0 : Int) else 1) (i + 1) = sm (fun i => if 0 ≤ am_m h3 w i ∧ am_m h3 w i ≤ 9999 then (0 : Int) else 1) i + 1 := by
          show _ + (if 0 ≤ am_m h3 w (i : Int) ∧ am_m h3 w (i : Int) ≤ 9999 then (0 : Int) else 1) = _
          rw [if_neg e]
        have e6 : sm (fun i => if 0 ≤ am_m h3 w i ∧ am_m h3 w i ≤ 9999 then (0 : Int) else 1) 0 = 0 := rfl
        omega
    exact s162_91 (n := (s_nf pp ss p).toNat) (by omega) (so.t.trans t1) (by rw [so.l, l1]; omega) hc (fun p q p0 p1 p2 => hs p q p0 p1 p2) bd gg (by have := gg (fun y => y); rw [show (fun i => am_m h3 w i) = am_m h3 w from rfl] at this; rw [this, ← sh_cf]; show ss 6 p ≤ s_cf pp ss p; omega) (k h3 f3 (by have := so.nn; omega)) (s_nf pp ss p).toNat 0 (ss 6 p) _ (by omega) (by show _ = ss 6 p - 0; omega) (fun j hj => by omega) hc.1
