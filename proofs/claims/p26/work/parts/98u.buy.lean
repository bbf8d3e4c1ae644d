/-! ===== the law's own jury buys: all pay first ===== -/
def s_pu1 (ss : TT) (p sh : Int) : Nat → TT
  | 0 => ss
  | n + 1 => if ss 9 (12 * (n : Int) + p) = 0 then s_pu1 ss p sh n else su (su (s_pu1 ss p sh n) 4 (n : Int) (s_pu1 ss p sh n 4 (n : Int) - min sh (s_pu1 ss p sh n 4 (n : Int)))) 5 (n : Int) (w32 (s_pu1 ss p sh n 5 (n : Int) + min sh (s_pu1 ss p sh n 4 (n : Int))))
theorem s_pu1_s {ss : TT} {p sh : Int} {n : Nat} : s_pu1 ss p sh (n + 1) = if ss 9 (12 * (n : Int) + p) = 0 then s_pu1 ss p sh n else su (su (s_pu1 ss p sh n) 4 (n : Int) (s_pu1 ss p sh n 4 (n : Int) - min sh (s_pu1 ss p sh n 4 (n : Int)))) 5 (n : Int) (w32 (s_pu1 ss p sh n 5 (n : Int) + min sh (s_pu1 ss p sh n 4 (n : Int)))) := rfl
theorem s_pu1_ne {ss : TT} {p sh i : Int} {k : Nat} (h4 : k ≠ 4) (h5 : k ≠ 5) : ∀ n : Nat, s_pu1 ss p sh n k i = ss k i
  | 0 => rfl
  | n + 1 => by
    rw [s_pu1_s]
    by_cases z : ss 9 (12 * (n : Int) + p) = 0
    · rw [if_pos z]; exact s_pu1_ne h4 h5 n
    · rw [if_neg z, su_ne (fun z => h5 z.1), su_ne (fun z => h4 z.1)]; exact s_pu1_ne h4 h5 n
theorem s_pu1_hi {ss : TT} {p sh : Int} {k : Nat} {i : Nat} : ∀ n : Nat, n ≤ i → s_pu1 ss p sh n k (i : Int) = ss k (i : Int)
  | 0, _ => rfl
  | n + 1, h => by
    rw [s_pu1_s]
    by_cases z : ss 9 (12 * (n : Int) + p) = 0
    · rw [if_pos z]; exact s_pu1_hi n (by omega)
    · rw [if_neg z, su_ne (fun z => by omega), su_ne (fun z => by omega)]; exact s_pu1_hi n (by omega)
theorem s165_19 {d : Nat} {h : AH} {a p sh : Int} {A pp ss : TT} {bb : Int → Int → Int} {K : AK} {nc ns : Nat} (c : SM h a A pp ss bb) (h0 : 0 ≤ p) (h1 : p < pp 1 0) (hsh : 1 ≤ sh ∧ sh ≤ 9999) (tm : ∀ v, 0 ≤ v → v < pp 2 0 → am_m h (A 6 v) 2 = ss 4 v)
    (k : ∀ g y, SM g a A pp (s_pu1 ss p sh (pp 2 0).toNat) bb → FX (SR A pp a) h g → am_n g = am_n h → (∀ v, 0 ≤ v → v < pp 2 0 → am_m g (A 6 v) 2 = ss 4 v) → WP (d + 1) 165 (114, [(2, a), (0, p), (0, sh), (0, sm (f_tg ss p sh) (pp 2 0).toNat - ss 6 p), (0, 0), y], [], g, nc, ns) K) :
    WP (d + 1) 165 (19, [(2, a), (0, p), (0, sh), (0, -ss 6 p), (0, 0), (9, 0)], [], h, nc, ns) K := by
  have hN := c.p1
  have hcost := (c.si.2.2.2.2.1 p h0 h1).1
  have H := lp_in (S := AH × AV) (d := d + 1) (m := 165) (K := K) (fun n s => (19, [(2, a), (0, p), (0, sh), (0, sm (f_tg ss p sh) n - ss 6 p), (0, (n : Int)), s.2], [], s.1, nc, ns)) (fun n s => SM s.1 a A pp (s_pu1 ss p sh n) bb ∧ FX (SR A pp a) h s.1 ∧ am_n s.1 = am_n h ∧ ∀ v, 0 ≤ v → v < pp 2 0 → am_m s.1 (A 6 v) 2 = ss 4 v) (pp 2 0).toNat (fun n s hn I nx => ?_) (fun s I => ?_) (h, (9, 0)) ⟨c, FX.rf, rfl, tm⟩
  · rw [show sm (f_tg ss p sh) 0 - ss 6 p = -ss 6 p by show (0 : Int) - _ = _; omega] at H
    exact H
  · obtain ⟨g, y⟩ := s
    obtain ⟨c1, f1, n1, tm1⟩ := I
    dsimp only at c1 f1 n1 tm1 ⊢
    obtain ⟨e1, e2, e3, e4, e5⟩ := c1.v (n : Int) (by omega) (by omega)
    obtain ⟨l1, l2, l3, l4⟩ := c1.l (n : Int) (by omega) (by omega)
    have l5 := l4 p h0 h1
    rw [s_pu1_ne (by decide) (by decide)] at l5
    have q4 : s_pu1 ss p sh n 4 (n : Int) = ss 4 (n : Int) := s_pu1_hi n (Nat.le_refl _)
    have hq := c.si.2.2.2.1 (n : Int) (by omega) (by omega)
    have tb : 0 ≤ sm (f_tg ss p sh) n ∧ sm (f_tg ss p sh) n ≤ 9999 * (n : Int) := sm_bd (fun i hi => by
      have := c.si.2.2.2.1 (i : Int) (by omega) (by omega)
      unfold f_tg
      by_cases z : ss 9 (12 * (i : Int) + p) = 0
      · rw [if_pos z]; omega
      · rw [if_neg z]; omega)
    have st : sm (f_tg ss p sh) (n + 1) = sm (f_tg ss p sh) n + (if ss 9 (12 * (n : Int) + p) = 0 then 0 else min sh (ss 4 (n : Int))) := rfl
    have sp : s_pu1 ss p sh (n + 1) = if ss 9 (12 * (n : Int) + p) = 0 then s_pu1 ss p sh n else su (su (s_pu1 ss p sh n) 4 (n : Int) (s_pu1 ss p sh n 4 (n : Int) - min sh (s_pu1 ss p sh n 4 (n : Int)))) 5 (n : Int) (w32 (s_pu1 ss p sh n 5 (n : Int) + min sh (s_pu1 ss p sh n 4 (n : Int)))) := rfl
    have hR : SR A pp a (A 6 (n : Int)) := Or.inr (Or.inr ⟨(n : Int), by omega, by omega, Or.inl rfl⟩)
    have c2 := fun (x : Int) hx => c1.u4 (r := (n : Int)) (x := ss 4 (n : Int) - x) (by omega) (by omega) (c1.si.u4 hx)
    have fin : ∀ (x : Int), x = min sh (ss 4 (n : Int)) → ¬ ss 9 (12 * (n : Int) + p) = 0 → ∀ y, WP (d + 1) 165 (19, [(2, a), (0, p), (0, sh), (0, sm (f_tg ss p sh) n - ss 6 p + x), (0, ((n + 1 : Nat) : Int)), y], [], am_w (am_w g (A 6 (n : Int)) 0 (ss 4 (n : Int) - x)) (A 6 (n : Int)) 1 (w32 (s_pu1 ss p sh n 5 (n : Int) + x)), nc, ns) K := by
      intro x hx z y
      have c3 := (c2 x (by omega)).u5 (r := (n : Int)) (x := w32 (s_pu1 ss p sh n 5 (n : Int) + x)) (by omega) (by omega) (c2 x (by omega)).si.u5
      have := nx (am_w (am_w g (A 6 (n : Int)) 0 (ss 4 (n : Int) - x)) (A 6 (n : Int)) 1 (w32 (s_pu1 ss p sh n 5 (n : Int) + x)), y) ⟨by rw [sp, if_neg z, q4, ← hx]; exact c3, (f1.w hR).w hR, n1, fun v v0 v1 => by
        rw [am_m_w, if_neg (fun z => by omega), am_m_w, if_neg (fun z => by omega)]
        exact tm1 v v0 v1⟩
      rw [st, if_neg z, ← hx, show sm (f_tg ss p sh) n + x - ss 6 p = sm (f_tg ss p sh) n - ss 6 p + x by omega] at this
      exact this
    have c20 := c2 (ss 4 (n : Int)) (by omega)
    have cs0 := fun (hz : ¬ ss 4 (n : Int) < sh) => c2 sh (by omega)
    refine v165_19 ?_
    rw [c1.t, c1.m6, c1.m7, l1, l2, l3, l5, c1.vt, c1.vl, c1.lt, c1.ll, e1, e2, e3, e4, q4, show w32 ((n : Int) + 1) = ((n + 1 : Nat) : Int) by rw [w32_id (by omega) (by omega)]; omega, show w32 (ss 4 (n : Int) - ss 4 (n : Int)) = ss 4 (n : Int) - ss 4 (n : Int) from w32_id (by omega) (by omega), show w32 (ss 4 (n : Int) - sh) = ss 4 (n : Int) - sh from w32_id (by omega) (by omega), show w32 (sm (f_tg ss p sh) n - ss 6 p + ss 4 (n : Int)) = sm (f_tg ss p sh) n - ss 6 p + ss 4 (n : Int) from w32_id (by omega) (by omega), show w32 (sm (f_tg ss p sh) n - ss 6 p + sh) = sm (f_tg ss p sh) n - ss 6 p + sh from w32_id (by omega) (by omega)]
    refine ⟨rfl, by decide, fun _ => ⟨rfl, ⟨Or.inr rfl, by omega, by omega⟩, ⟨rfl, h0, h1⟩, fun z => ?_, fun z => ⟨rfl, ⟨Or.inl rfl, by omega, by omega⟩, ⟨rfl, by decide, by decide⟩, fun y => ?_, fun y => ?_⟩⟩, fun z => absurd (show (n : Int) < pp 2 0 by omega) z⟩
    · have := nx (g, y) ⟨by rw [sp, if_pos z]; exact c1, f1, n1, tm1⟩
      rw [st, if_pos z, Int.add_zero] at this
      exact this
    · obtain ⟨g1, g2, g3, g4, g5⟩ := c20.v (n : Int) (by omega) (by omega)
      rw [su_ne (by omega)] at g5
      rw [c20.t, c20.m6, c20.vt, c20.vl, g1, g2, g3, g5]
      exact ⟨rfl, ⟨Or.inl rfl, by omega, by omega⟩, ⟨rfl, by decide, by decide⟩, rfl, ⟨Or.inl rfl, by omega, by omega⟩, ⟨rfl, by decide, by decide⟩, ⟨rfl, by decide, by decide⟩, rfl, ⟨Or.inl rfl, by omega, by omega⟩, ⟨rfl, by decide, by decide⟩, ⟨rfl, by decide, by decide⟩, fin _ (by omega) z _⟩
    · obtain ⟨g1, g2, g3, g4, g5⟩ := (cs0 y).v (n : Int) (by omega) (by omega)
      rw [su_ne (by omega)] at g5
      rw [(cs0 y).t, (cs0 y).m6, (cs0 y).vt, (cs0 y).vl, g1, g2, g3, g5]
      exact ⟨rfl, ⟨Or.inl rfl, by omega, by omega⟩, ⟨rfl, by decide, by decide⟩, ⟨rfl, by decide, by decide⟩, rfl, ⟨Or.inl rfl, by omega, by omega⟩, ⟨rfl, by decide, by decide⟩, ⟨rfl, by decide, by decide⟩, fin _ (by omega) z _⟩
  · obtain ⟨g, y⟩ := s
    obtain ⟨c1, f1, n1, tm1⟩ := I
    dsimp only at c1 f1 n1 tm1 ⊢
    refine v165_19 ?_
    rw [c1.t, c1.m6, c1.vt, c1.vl]
    exact ⟨rfl, by decide, fun z => absurd z (by omega), fun _ => k g y c1 f1 n1 tm1⟩
