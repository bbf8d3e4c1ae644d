/-! ===== the law's own jury buys: all pay first ===== -/
def s_pu1 (ss : TT) (p sh : Int) : Nat → TT
  | 0 => ss
  | n + 1 => if ss 9 (12 * (n : Int) + p) = 0 then s_pu1 ss p sh n else su (su (s_pu1 ss p sh n) 4 (n : Int) (s_pu1 ss p sh n 4 (n : Int) - min sh (s_pu1 ss p sh n 4 (n : Int)))) 5 (n : Int) (w32 (s_pu1 ss p sh n 5 (n : Int) + min sh (s_pu1 ss p sh n 4 (n : Int))))
theorem s_pu1_s {ss : TT} {p sh : Int} {n : Nat} : s_pu1 ss p sh (n + 1) = if ss 9 (12 * (n : Int) + p) = 0 then s_pu1 ss p sh n else su (su (s_pu1 ss p sh n) 4 (n : Int) (s_pu1 ss p sh n 4 (n : Int) - min sh (s_pu1 ss p sh n 4 (n : Int)))) 5 (n : Int) (w32 (s_pu1 ss p sh n 5 (n : Int) + min sh (s_pu1 ss p sh n 4 (n : Int)))) := rfl
theorem s_pu1_ne {ss : TT} {p sh i : Int} {k : Nat} (h4 : k ≠ 4) (h5 : k ≠ 5) : ∀ n : Nat, s_pu1 ss p sh n k i = ss k i
  | 0 => rfl
  | n + 1 => by
    rw [s_pu1_s]
    by_cases z : ss 9 (12 * (n : Int) + p) = 0
    · rw [if_pos z]; exact s_pu1_ne h4 h5 n
    · rw [if_neg z, su_ne (fun z => h5 z.1), su_ne (fun z => h4 z.1)]; exact s_pu1_ne h4 h5 n
theorem s_pu1_hi {ss : TT} {p sh : Int} {k : Nat} {i : Nat} : ∀ n : Nat, n ≤ i → s_pu1 ss p sh n k (i : Int) = ss k (i : Int)
  | 0, _ => rfl
  | n + 1, h => by
    rw [s_pu1_s]
    by_cases z : ss 9 (12 * (n : Int) + p) = 0
    · rw [if_pos z]; exact s_pu1_hi n (by omega)
    · rw [if_neg z, su_ne (fun z => by omega), su_ne (fun z => by omega)]; exact s_pu1_hi n (by omega)
theorem s165_19 {d : Nat} {h : AH} {a p sh : Int} {A pp ss : TT} {bb : Int → Int → Int} {K : AK} {nc ns : Nat} (c : SM h a A pp ss bb) (h0 : 0 ≤ p) (h1 : p < pp 1 0) (hsh : 1 ≤ sh ∧ sh ≤ 9999) (tm : ∀ v, 0 ≤ v → v < pp 2 0 → am_m h (A 6 v) 2 = ss 4 v)
    (k : ∀ g y, SM g a A pp (s_pu1 ss p sh (pp 2 0).toNat) bb → FX (SR A pp a) h g → am_n g = am_n h → (∀ v, 0 ≤ v → v < pp 2 0 → am_m g (A 6 v) 2 = ss 4 v) → WP (d + 1) 165 (114, [(2, a), (0, p), (0, sh), (0, sm (f_tg ss p sh) (pp 2 0).toNat - ss 6 p), (0, 0), y], [], g, nc, ns) K) :
    WP (d + 1) 165 (19, [(2, a), (0, p), (0, sh), (0, -ss 6 p), (0, 0), (9, 0)], [], h, nc, ns) K := by
  have hN := c.p1
  have hcost := (c.si.2.2.2.2.1 p h0 h1).1
  have H := lp_in (S := AH × AV) (d := d + 1) (m := 165) (K := K) (fun n s => (19, [(2, a), (0, p), (0, sh), (0, sm (f_tg ss p sh) n - ss 6 p), (0, (n : Int)), s.2], [], s.1, nc, ns)) (fun n s => SM s.1 a A pp (s_pu1 ss p sh n) bb ∧ FX (SR A pp a) h s.1 ∧ am_n s.1 = am_n h ∧ ∀ v, 0 ≤ v → v < pp 2 0 → am_m s.1 (A 6 v) 2 = ss 4 v) (pp 2 0).toNat (fun n s hn I nx => ?_) (fun s I => ?_) (h, (9, 0)) ⟨c, FX.rf, rfl, tm⟩
  · rw [show sm (f_tg ss p sh) 0 - ss 6 p = -ss 6 p by show (0 : Int) - _ = _; omega] at H
    exact H
  · obtain ⟨g, y⟩ := s
    obtain ⟨c1, f1, n1, tm1⟩ := I
    dsimp only at c1 f1 n1 tm1 ⊢
    obtain ⟨e1, e2, e3, e4, e5⟩ := c1.v (n : Int) (by omega) (by omega)
    obtain ⟨l1, l2, l3, l4⟩ := c1.l (n : Int) (by omega) (by omega)
    have l5 := l4 p h0 h1
    rw [s_pu1_ne (by decide) (by decide)] at l5
    have q4 : s_pu1 ss p sh n 4 (n : Int) = ss 4 (n : Int) := s_pu1_hi n (Nat.le_refl _)
    have hq := c.si.2.2.2.1 (n : Int) (by omega) (by omega)
    have tb : 0 ≤ sm (f_tg ss p sh) n ∧ sm (f_tg ss p sh) n ≤ 9999 * (n : Int) := sm_bd (fun i hi => by
      have := c.si.2.2.2.1 (i : Int) (by omega) (by omega)
      unfold f_tg
      by_cases z : ss 9 (12 * (i : Int) + p) = 0
      · rw [if_pos z]; omega
      · rw [if_neg z]; omega)
    have st : sm (f_tg ss p sh) (n + 1) = sm (f_tg ss p sh) n + (if ss 9 (12 * (n : Int) + p) = 0 then 0 else min sh (ss 4 (n : Int))) := rfl
    have sp : s_pu1 ss p sh (n + 1) = if ss 9 (12 * (n : Int) + p) = 0 then s_pu1 ss p sh n else su (su (s_pu1 ss p sh n) 4 (n : Int) (s_pu1 ss p sh n 4 (n : Int) - min sh (s_pu1 ss p sh n 4 (n : Int)))) 5 (n : Int) (w32 (s_pu1 ss p sh n 5 (n : Int) + min sh (s_pu1 ss p sh n 4 (n : Int)))) := rfl
    have hR : SR A pp a (A 6 (n : Int)) := Or.inr (Or.inr ⟨(n : Int), by omega, by omega, Or.inl rfl⟩)
    have c2 := fun (x : Int) hx => c1.u4 (r := (n : Int)) (x := ss 4 (n : Int) - x) (by omega) (by omega) (c1.si.u4 hx)
    have fin : ∀ (x : Int), x = min sh (ss 4 (n : Int)) → ¬ ss 9 (12 * (n : Int) + p) = 0 → ∀ y, WP (d + 1) 165 (19, [(2, a), (0, p), (0, sh), (0, sm (f_tg ss p sh) n - ss 6 p + x), (0, ((n + 1 : Nat) : Int)), y], [], am_w (am_w g (A 6 (n : Int)) 0 (ss 4 (n : Int) - x)) (A 6 (n : Int)) 1 (w32 (s_pu1 ss p sh n 5 (n : Int) + x)), nc, ns) K := by
      intro x hx z y
      have c3 := (c2 x (by omega)).u5 (r := (n : Int)) (x := w32 (s_pu1 ss p sh n 5 (n : Int) + x)) (by omega) (by omega) (c2 x (by omega)).si.u5
      have := nx (am_w (am_w g (A 6 (n : Int)) 0 (ss 4 (n : Int) - x)) (A 6 (n : Int)) 1 (w32 (s_pu1 ss p sh n 5 (n : Int) + x)), y) ⟨by rw [sp, if_neg z, q4, ← hx]; exact c3, (f1.w hR).w hR, n1, fun v v0 v1 => by
        rw [am_m_w, if_neg (fun z => by omega), am_m_w, if_neg (fun z => by omega)]
        exact tm1 v v0 v1⟩
      rw [st, if_neg z, ← hx, show sm (f_tg ss p sh) n + x - ss 6 p = sm (f_tg ss p sh) n - ss 6 p + x by omega] at this
      exact this
    have c20 := c2 (ss 4 (n : Int)) (by omega)
    have cs0 := fun (hz : ¬ ss 4 (n : Int) < sh) => c2 sh (by omega)
    refine v165_19 ?_
    rw [c1.t, c1.m6, c1.m7, l1, l2, l3, l5, c1.vt, c1.vl, c1.lt, c1.ll, e1, e2, e3, e4, q4, show w32 ((n : Int) + 1) = ((n + 1 : Nat) : Int) by rw [w32_id (by omega) (by omega)]; omega, show w32 (ss 4 (n : Int) - ss 4 (n : Int)) = ss 4 (n : Int) - ss 4 (n : Int) from w32_id (by omega) (by omega), show w32 (ss 4 (n : Int) - sh) = ss 4 (n : Int) - sh from w32_id (by omega) (by omega), show w32 (sm (f_tg ss p sh) n - ss 6 p + ss 4 (n : Int)) = sm (f_tg ss p sh) n - ss 6 p + ss 4 (n : Int) from w32_id (by omega) (by omega), show w32 (sm (f_tg ss p sh) n - ss 6 p + sh) = sm (f_tg ss p sh) n - ss 6 p + sh from w32_id (by omega) (by omega)]
    refine ⟨rfl, by decide, fun _ => ⟨rfl, ⟨Or.inr rfl, by omega, by omega⟩, ⟨rfl, h0, h1⟩, fun z => ?_, fun z => ⟨rfl, ⟨Or.inl rfl, by omega, by omega⟩, ⟨rfl, by decide, by decide⟩, fun y => ?_, fun y => ?_⟩⟩, fun z => absurd (show (n : Int) < pp 2 0 by omega) z⟩
    · have := nx (g, y) ⟨by rw [sp, if_pos z]; exact c1, f1, n1, tm1⟩
      rw [st, if_pos z, Int.add_zero] at this
      exact this
    · obtain ⟨g1, g2, g3, g4, g5⟩ := c20.v (n : Int) (by omega) (by omega)
      rw [su_ne (by omega)] at g5
      rw [c20.t, c20.m6, c20.vt, c20.vl, g1, g2, g3, g5]
      exact ⟨rfl, ⟨Or.inl rfl, by omega, by omega⟩, ⟨rfl, by decide, by decide⟩, rfl, ⟨Or.inl rfl, by omega, by omega⟩, ⟨rfl, by decide, by decide⟩, ⟨rfl, by decide, by decide⟩, rfl, ⟨Or.inl rfl, by omega, by omega⟩, ⟨rfl, by decide, by decide⟩, ⟨rfl, by decide, by decide⟩, fin _ (by omega) z _⟩
    · obtain ⟨g1, g2, g3, g4, g5⟩ := (cs0 y).v (n : Int) (by omega) (by omega)
      rw [su_ne (by omega)] at g5
      rw [(cs0 y).t, (cs0 y).m6, (cs0 y).vt, (cs0 y).vl, g1, g2, g3, g5]
      exact ⟨rfl, ⟨Or.inl rfl, by omega, by omega⟩, ⟨rfl, by decide, by decide⟩, ⟨rfl, by decide, by decide⟩, rfl, ⟨Or.inl rfl, by omega, by omega⟩, ⟨rfl, by decide, by decide⟩, ⟨rfl, by decide, by decide⟩, fin _ (by omega) z _⟩
  · obtain ⟨g, y⟩ := s
    obtain ⟨c1, f1, n1, tm1⟩ := I
    dsimp only at c1 f1 n1 tm1 ⊢
    refine v165_19 ?_
    rw [c1.t, c1.m6, c1.vt, c1.vl]
    exact ⟨rfl, by decide, fun z => absurd z (by omega), fun _ => k g y c1 f1 n1 tm1⟩
/-! ===== the law's own jury buys: what was too much is given back ===== -/
theorem w32_w1 (x m : Int) : w32 (w32 (x + m) - 1) = w32 (x + (m + -1)) := by
  unfold w32
  rw [show (x + m).bmod 4294967296 - 1 = (x + m).bmod 4294967296 + -1 by omega, Int.bmod_add_bmod, show x + m + -1 = x + (m + -1) by omega]
theorem s_bf_hi {ss : TT} {p sh bk : Int} {k : Nat} {i : Int} : ∀ n : Nat, (i < 0 ∨ (n : Int) ≤ i) → (s_bf ss p sh bk n).2 k i = ss k i
  | 0, _ => rfl
  | n + 1, h => by
    have ih := s_bf_hi (ss := ss) (p := p) (sh := sh) (bk := bk) (k := k) (i := i) n (by omega)
    rw [s_bf_succ]
    generalize s_bf ss p sh bk n = r at ih ⊢
    unfold s_b1
    by_cases z : ss 9 (12 * (n : Int) + p) = 0
    · rw [if_pos z]; exact ih
    · rw [if_neg z]
      by_cases y : min sh (r.2 4 (n : Int)) = sh ∧ 0 < r.1
      · rw [if_pos y]; exact (su_ne (by omega)).trans ((su_ne (by omega)).trans ih)
      · rw [if_neg y]; exact (su_ne (by omega)).trans ((su_ne (by omega)).trans ih)
theorem s_bf_lo {ss : TT} {p sh bk : Int} {k n : Nat} {i : Int} (h : i < (n : Int)) : (s_bf ss p sh bk (n + 1)).2 k i = (s_bf ss p sh bk n).2 k i := by
  rw [s_bf_succ]
  generalize s_bf ss p sh bk n = r
  unfold s_b1
  by_cases z : ss 9 (12 * (n : Int) + p) = 0
  · rw [if_pos z]
  · rw [if_neg z]
    by_cases y : min sh (r.2 4 (n : Int)) = sh ∧ 0 < r.1
    · rw [if_pos y]; exact (su_ne (by omega)).trans (su_ne (by omega))
    · rw [if_neg y]; exact (su_ne (by omega)).trans (su_ne (by omega))
theorem s_pu1_at {ss : TT} {p sh : Int} {k n : Nat} : ∀ N : Nat, n < N → s_pu1 ss p sh N k (n : Int) = s_pu1 ss p sh (n + 1) k (n : Int)
  | 0, h => absurd h (by omega)
  | N + 1, h => by
    by_cases e : n = N
    · rw [e]
    · rw [← s_pu1_at N (by omega), s_pu1_s (n := N)]
      by_cases z : ss 9 (12 * (N : Int) + p) = 0
      · rw [if_pos z]
      · rw [if_neg z]; exact (su_ne (by omega)).trans (su_ne (by omega))
theorem s_pu1_neg {ss : TT} {p sh : Int} {k : Nat} {i : Int} (h : i < 0) : ∀ N : Nat, s_pu1 ss p sh N k i = ss k i
  | 0 => rfl
  | N + 1 => by
    rw [s_pu1_s]
    by_cases z : ss 9 (12 * (N : Int) + p) = 0
    · rw [if_pos z]; exact s_pu1_neg h N
    · rw [if_neg z]; exact (su_ne (by omega)).trans ((su_ne (by omega)).trans (s_pu1_neg h N))
/-- given back below n, not yet from n on -/
def Zb (ss : TT) (p sh bk : Int) (N n : Nat) : TT := fun k i => if i < (n : Int) then (s_bf ss p sh bk n).2 k i else s_pu1 ss p sh N k i
theorem Zb_0 {ss : TT} {p sh bk : Int} {N : Nat} : Zb ss p sh bk N 0 = s_pu1 ss p sh N := by
  funext k i
  unfold Zb
  by_cases h : i < ((0 : Nat) : Int)
  · rw [if_pos h, s_pu1_neg (by omega)]; rfl
  · rw [if_neg h]
theorem Zb_N {ss : TT} {p sh bk : Int} {N : Nat} : Zb ss p sh bk N N = (s_bf ss p sh bk N).2 := by
  funext k i
  unfold Zb
  by_cases h : i < (N : Int)
  · rw [if_pos h]
  · rw [if_neg h, s_bf_hi N (by omega), show i = ((i.toNat : Nat) : Int) by omega, s_pu1_hi N (by omega)]
theorem Zb_s {ss : TT} {p sh bk : Int} {N n : Nat} (hn : n < N) :
    (¬ ss 9 (12 * (n : Int) + p) = 0 ∧ min sh (ss 4 (n : Int)) = sh ∧ 0 < (s_bf ss p sh bk n).1 → Zb ss p sh bk N (n + 1) = su (su (Zb ss p sh bk N n) 4 (n : Int) (s_pu1 ss p sh N 4 (n : Int) + 1)) 5 (n : Int) (w32 (s_pu1 ss p sh N 5 (n : Int) - 1)) ∧ (s_bf ss p sh bk (n + 1)).1 = (s_bf ss p sh bk n).1 + (-1)) ∧
    (¬ (¬ ss 9 (12 * (n : Int) + p) = 0 ∧ min sh (ss 4 (n : Int)) = sh ∧ 0 < (s_bf ss p sh bk n).1) → Zb ss p sh bk N (n + 1) = Zb ss p sh bk N n ∧ (s_bf ss p sh bk (n + 1)).1 = (s_bf ss p sh bk n).1) := by
  have e4 : (s_bf ss p sh bk n).2 4 (n : Int) = ss 4 (n : Int) := s_bf_hi n (by omega)
  have e5 : (s_bf ss p sh bk n).2 5 (n : Int) = ss 5 (n : Int) := s_bf_hi n (by omega)
  have u4 : s_pu1 ss p sh n 4 (n : Int) = ss 4 (n : Int) := s_pu1_hi n (Nat.le_refl _)
  have u5 : s_pu1 ss p sh n 5 (n : Int) = ss 5 (n : Int) := s_pu1_hi n (Nat.le_refl _)
  have hb := s_bf_succ (ss := ss) (p := p) (sh := sh) (bk := bk) (n := n)
  unfold s_b1 at hb
  rw [e4, e5] at hb
  have pn : ∀ k, s_pu1 ss p sh N k (n : Int) = s_pu1 ss p sh (n + 1) k (n : Int) := fun k => s_pu1_at N hn
  have ps := s_pu1_s (ss := ss) (p := p) (sh := sh) (n := n)
  rw [u4, u5] at ps
  have at_ : ∀ (k : Nat) (i : Int), ¬ i = (n : Int) → Zb ss p sh bk N (n + 1) k i = Zb ss p sh bk N n k i := fun k i hi => by
    unfold Zb
    by_cases h : i < (n : Int)
    · rw [if_pos (by omega), if_pos h, s_bf_lo h]
    · rw [if_neg (by omega), if_neg h]
  have at1 : ∀ k : Nat, Zb ss p sh bk N (n + 1) k (n : Int) = (s_bf ss p sh bk (n + 1)).2 k (n : Int) := fun k => if_pos (by omega)
  have at0 : ∀ k : Nat, Zb ss p sh bk N n k (n : Int) = s_pu1 ss p sh N k (n : Int) := fun k => if_neg (by omega)
  constructor
  · rintro ⟨z, y, x⟩
    rw [if_neg z] at hb ps
    rw [if_pos ⟨y, x⟩] at hb
    refine ⟨?_, by rw [hb]⟩
    funext k i
    by_cases hi : i = (n : Int)
    · subst hi
      rw [at1, hb]
      by_cases k5 : k = 5
      · subst k5
        rw [su_eq]
        show su _ 5 (n : Int) _ 5 (n : Int) = _
        rw [su_eq, pn, ps, su_eq, w32_w1]
      · rw [su_ne (fun q => k5 q.1)]
        show su _ 5 (n : Int) _ k (n : Int) = _
        rw [su_ne (fun q => k5 q.1)]
        by_cases k4 : k = 4
        · subst k4
          rw [su_eq, su_eq, pn, ps, su_ne (by omega), su_eq]
          omega
        · rw [su_ne (fun q => k4 q.1), su_ne (fun q => k4 q.1), at0, pn, ps, su_ne (fun q => k5 q.1), su_ne (fun q => k4 q.1), s_bf_hi n (by omega), s_pu1_hi n (Nat.le_refl _)]
    · rw [at_ k i hi, su_ne (fun q => hi q.2), su_ne (fun q => hi q.2)]
  · intro w
    have key : (s_bf ss p sh bk (n + 1)).1 = (s_bf ss p sh bk n).1 ∧ ∀ k : Nat, (s_bf ss p sh bk (n + 1)).2 k (n : Int) = s_pu1 ss p sh N k (n : Int) := by
      by_cases z : ss 9 (12 * (n : Int) + p) = 0
      · rw [if_pos z] at hb ps
        rw [hb]
        exact ⟨rfl, fun k => by rw [pn, ps, s_bf_hi n (by omega), s_pu1_hi n (Nat.le_refl _)]⟩
      · rw [if_neg z] at hb ps
        rw [if_neg (fun q => w ⟨z, q.1, q.2⟩)] at hb
        rw [hb]
        refine ⟨rfl, fun k => ?_⟩
        rw [pn, ps]
        show su _ 5 (n : Int) _ k (n : Int) = _
        by_cases k5 : k = 5
        · subst k5; rw [su_eq, su_eq]
        · rw [su_ne (fun q => k5 q.1), su_ne (fun q => k5 q.1)]
          by_cases k4 : k = 4
          · subst k4; rw [su_eq, su_eq]
          · rw [su_ne (fun q => k4 q.1), su_ne (fun q => k4 q.1), s_bf_hi n (by omega), s_pu1_hi n (Nat.le_refl _)]
    refine ⟨?_, key.1⟩
    funext k i
    by_cases hi : i = (n : Int)
    · subst hi
      rw [at1, at0, key.2]
    · exact at_ k i hi
theorem Zb_stop {ss : TT} {p sh bk : Int} {N : Nat} : ∀ r n : Nat, n + r = N → (s_bf ss p sh bk n).1 ≤ 0 → Zb ss p sh bk N n = (s_bf ss p sh bk N).2
  | 0, n, h, _ => by
    obtain rfl : n = N := by omega
    exact Zb_N
  | r + 1, n, h, hb => by
    obtain ⟨z1, z2⟩ := (Zb_s (ss := ss) (p := p) (sh := sh) (bk := bk) (N := N) (n := n) (by omega)).2 (fun q => by omega)
    rw [← z1]
    exact Zb_stop r (n + 1) (by omega) (by omega)
theorem s165_114 {d : Nat} {h : AH} {a p sh bk : Int} {A pp ss : TT} {bb : Int → Int → Int} {K : AK} {nc ns : Nat} (c : SM h a A pp ss bb) (h0 : 0 ≤ p) (h1 : p < pp 1 0) (hsh : 1 ≤ sh ∧ sh ≤ 9999)
    (k : ∀ g, SM g a A pp (su (s_bf ss p sh bk (pp 2 0).toNat).2 8 p 1) bb → FX (SR A pp a) h g → am_n g = am_n h → K 0 0 g) :
    ∀ (r n : Nat) (g : AH) (y : AV), n + r = (pp 2 0).toNat → SM g a A pp (Zb ss p sh bk (pp 2 0).toNat n) bb → FX (SR A pp a) h g → am_n g = am_n h → (∀ v, 0 ≤ v → v < pp 2 0 → am_m g (A 6 v) 2 = ss 4 v) → (s_bf ss p sh bk n).1 ≤ 1000000 →
      WP (d + 1) 165 (114, [(2, a), (0, p), (0, sh), (0, (s_bf ss p sh bk n).1), (0, (n : Int)), y], [], g, nc, ns) K := by
  have hN := c.p1
  have fin : ∀ g, SM g a A pp (s_bf ss p sh bk (pp 2 0).toNat).2 bb → FX (SR A pp a) h g → am_n g = am_n h → K 0 0 (am_w g (A 5 p) 4 1) := fun g cg f n1 => k _ (cg.u8 (r := p) (x := 1) h0 h1 (cg.si.u8 (Or.inr rfl))) (f.w (Or.inr (Or.inl ⟨p, h0, h1, rfl⟩))) n1
  intro r
  induction r with
  | zero =>
    intro n g y hn cg f n1 tm hb
    obtain rfl : n = (pp 2 0).toNat := by omega
    obtain ⟨e1, e2, e3, -⟩ := cg.p p h0 h1
    rw [Zb_N] at cg
    refine v165_114 ?_
    rw [cg.t, cg.m5, cg.m6, cg.vt, cg.vl, cg.pt, cg.pl, e1, e2, e3]
    exact ⟨rfl, by decide, fun z => absurd z (by omega), fun _ => ⟨rfl, ⟨Or.inl rfl, h0, h1⟩, ⟨rfl, by decide, by decide⟩, fin g cg f n1⟩⟩
  | succ r ih =>
    intro n g y hn cg f n1 tm hb
    have hnN : n < (pp 2 0).toNat := by omega
    obtain ⟨e1, e2, e3, -⟩ := cg.p p h0 h1
    obtain ⟨v1, v2, v3, v4, v5⟩ := cg.v (n : Int) (by omega) (by omega)
    obtain ⟨l1, l2, l3, l4⟩ := cg.l (n : Int) (by omega) (by omega)
    have l5 := l4 p h0 h1
    have z9 : Zb ss p sh bk (pp 2 0).toNat n 9 (12 * (n : Int) + p) = ss 9 (12 * (n : Int) + p) := by
      unfold Zb
      by_cases q : 12 * (n : Int) + p < (n : Int)
      · rw [if_pos q]; exact s_bf_ne (by decide) (by decide) n
      · rw [if_neg q]; exact s_pu1_ne (by decide) (by decide) _
    rw [z9] at l5
    have tmn := tm (n : Int) (by omega) (by omega)
    have hq := c.si.2.2.2.1 (n : Int) (by omega) (by omega)
    have a4 : Zb ss p sh bk (pp 2 0).toNat n 4 (n : Int) = s_pu1 ss p sh (pp 2 0).toNat 4 (n : Int) := if_neg (by omega)
    have a5 : Zb ss p sh bk (pp 2 0).toNat n 5 (n : Int) = s_pu1 ss p sh (pp 2 0).toNat 5 (n : Int) := if_neg (by omega)
    obtain ⟨zs1, zs2⟩ := Zb_s (ss := ss) (p := p) (sh := sh) (bk := bk) hnN
    have stay : ¬ (¬ ss 9 (12 * (n : Int) + p) = 0 ∧ min sh (ss 4 (n : Int)) = sh ∧ 0 < (s_bf ss p sh bk n).1) → ∀ y, WP (d + 1) 165 (114, [(2, a), (0, p), (0, sh), (0, (s_bf ss p sh bk n).1), (0, ((n + 1 : Nat) : Int)), y], [], g, nc, ns) K := fun w y => by
      obtain ⟨w1, w2⟩ := zs2 w
      have := ih (n + 1) g y (by omega) (by rw [w1]; exact cg) f n1 tm (by omega)
      rw [w2] at this
      exact this
    refine v165_114 ?_
    rw [cg.t, cg.m5, cg.m6, cg.m7, cg.vt, cg.vl, cg.lt, cg.ll, cg.pt, cg.pl, l1, l2, l3, l5, v1, v2, v3, v4, a4, tmn, e1, e2, e3, show w32 ((n : Int) + 1) = ((n + 1 : Nat) : Int) by rw [w32_id (by omega) (by omega)]; omega]
    refine ⟨rfl, by decide, fun _ => ⟨fun z0 => ⟨rfl, ⟨Or.inr rfl, by omega, by omega⟩, ⟨rfl, h0, h1⟩, fun z => stay (fun q => q.1 z) _, fun z => ⟨rfl, ⟨Or.inl rfl, by omega, by omega⟩, ⟨rfl, by decide, by decide⟩, fun x => stay (fun q => by omega) _, fun x => ?_⟩⟩, fun z0 => ⟨rfl, ⟨Or.inl rfl, h0, h1⟩, ⟨rfl, by decide, by decide⟩, fin g (by rw [← Zb_stop (r + 1) n hn (by omega)]; exact cg) f n1⟩⟩, fun z => absurd (show (n : Int) < pp 2 0 by omega) z⟩
    obtain ⟨w1, w2⟩ := zs1 ⟨z, by omega, z0⟩
    have p4 : s_pu1 ss p sh (pp 2 0).toNat 4 (n : Int) = ss 4 (n : Int) - sh := by
      rw [s_pu1_at _ hnN, s_pu1_s, if_neg z, su_ne (by omega), su_eq, s_pu1_hi n (Nat.le_refl _)]
      omega
    have c2 := cg.u4 (r := (n : Int)) (x := s_pu1 ss p sh (pp 2 0).toNat 4 (n : Int) + 1) (by omega) (by omega) (cg.si.u4 (by omega))
    have c3 := c2.u5 (r := (n : Int)) (x := w32 (s_pu1 ss p sh (pp 2 0).toNat 5 (n : Int) - 1)) (by omega) (by omega) c2.si.u5
    obtain ⟨g1, g2, g3, g4, g5⟩ := c2.v (n : Int) (by omega) (by omega)
    rw [su_ne (by omega), a5] at g5
    rw [w32_id (x := s_pu1 ss p sh (pp 2 0).toNat 4 (n : Int) + 1) (by omega) (by omega), w32_id (x := (s_bf ss p sh bk n).1 + (-1)) (by omega) (by omega), c2.t, c2.m6, c2.vt, c2.vl, g1, g2, g3, g5]
    have hR : SR A pp a (A 6 (n : Int)) := Or.inr (Or.inr ⟨(n : Int), by omega, by omega, Or.inl rfl⟩)
    have nx := ih (n + 1) (am_w (am_w g (A 6 (n : Int)) 0 (s_pu1 ss p sh (pp 2 0).toNat 4 (n : Int) + 1)) (A 6 (n : Int)) 1 (w32 (s_pu1 ss p sh (pp 2 0).toNat 5 (n : Int) - 1))) y (by omega) (by rw [w1]; exact c3) ((f.w hR).w hR) n1 (fun v v0 v1 => by
      rw [am_m_w, if_neg (fun q => by omega), am_m_w, if_neg (fun q => by omega)]
      exact tm v v0 v1) (by omega)
    rw [w2] at nx
    exact ⟨rfl, ⟨Or.inl rfl, by omega, by omega⟩, ⟨rfl, by decide, by decide⟩, ⟨rfl, by decide, by decide⟩, rfl, ⟨Or.inl rfl, by omega, by omega⟩, ⟨rfl, by decide, by decide⟩, ⟨rfl, by decide, by decide⟩, nx⟩
theorem s165 {d : Nat} {h : AH} {a p : Int} {A pp ss : TT} {bb : Int → Int → Int} {K : AK} (c : SM h a A pp ss bb) (h0 : 0 ≤ p) (h1 : p < pp 1 0) (n0 : 0 ≤ am_n h) (hs : s_sh pp ss p ≠ -1) (tm : ∀ v, 0 ≤ v → v < pp 2 0 → am_m h (A 6 v) 2 = ss 4 v)
    (k : ∀ g, SM g a A pp (su (s_bf ss p (s_sh pp ss p) (s_tg pp ss p (s_sh pp ss p) - ss 6 p) (pp 2 0).toNat).2 8 p 1) bb → FX (SR A pp a) h g → am_n g ≤ am_n h + 1 → K 0 0 g) : am_call (d + 5) 165 [(2, a), (0, p)] h K := by
  obtain ⟨hb1, hb2⟩ := sh_bd c.pi c.si h0 h1 hs
  have tb := tg_bd (p := p) (x := s_sh pp ss p) c.pi c.si (by omega) (pp 2 0).toNat (Nat.le_refl _)
  have hcost := (c.si.2.2.2.2.1 p h0 h1).1
  refine v165 ⟨⟨c.t, by decide, by decide⟩, s162 c h0 h1 n0 (fun h3 f3 n3 => ?_)⟩
  have c3 := c.fp f3 (Int.le_refl _) (Int.le_refl _)
  have tm3 : ∀ v, 0 ≤ v → v < pp 2 0 → am_m h3 (A 6 v) 2 = ss 4 v := fun v v0 v1 => by
    have hv := (c.bd.2.2.1 v v0 v1).1
    rw [f3.2.2.2.2 _ hv (by omega) (by omega)]
    exact tm v v0 v1
  obtain ⟨e1, e2, e3, e4, -⟩ := c3.p p h0 h1
  refine okx ⟨c3.t, ?_⟩
  rw [c3.m5, c3.pt, c3.pl, e1, e2, e3, e4, w32_id (x := -ss 6 p) (by omega) (by omega)]
  refine ⟨⟨Or.inl rfl, h0, h1⟩, ⟨rfl, by decide, by decide⟩, s165_19 c3 h0 h1 hb1 tm3 (fun g y cg fg ng tg => ?_)⟩
  refine s165_114 (sh := s_sh pp ss p) (bk := s_tg pp ss p (s_sh pp ss p) - ss 6 p) c3 h0 h1 hb1 (fun g2 cg2 fg2 ng2 => k g2 cg2 ((FX.rf.fp f3 (Int.le_refl _) (Int.le_refl _)).tr fg2) (by omega)) (pp 2 0).toNat 0 g y (by omega) (by rw [Zb_0]; exact cg) fg ng tg ?_
  show s_tg pp ss p (s_sh pp ss p) - ss 6 p ≤ 1000000
  unfold s_tg
  omega
