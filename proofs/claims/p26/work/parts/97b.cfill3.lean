/-! ===== the class's checker as a whole ===== -/
def f00 : TT := fun b _ => if b = 8 then 100 else 0
theorem FI.i0 {ro va : Nat → Int} : FI ro va f00 0 := by
  have z : ∀ b i, b ≠ 8 → f00 b i = 0 := fun b i h => if_neg h
  have z8 : f00 8 0 = 100 := rfl
  refine ⟨⟨rfl, Nat.zero_le _⟩, ⟨rfl, Nat.zero_le _⟩, ⟨rfl, Nat.zero_le _⟩, ⟨rfl, Nat.zero_le _⟩, fun i hi => absurd hi (Nat.not_lt_zero i), fun i hi => absurd hi (Nat.not_lt_zero i), fun i hi => absurd hi (Nat.not_lt_zero i), fun i hi => absurd hi (Nat.not_lt_zero i), fun i hi => absurd hi (Nat.not_lt_zero i), by rw [z8]; decide, fun i => Or.inl (z _ _ (by decide)), fun v p _ _ _ _ _ => z _ _ (by decide), fun k hk => absurd hk (Nat.not_lt_zero k), fun k hk => absurd hk (Nat.not_lt_zero k), fun k hk => absurd hk (Nat.not_lt_zero k), fun k _ => z _ _ (by decide)⟩
theorem run_fi {kd ro va : Nat → Int} {E : Nat} (rf : ∀ j, j < E → RF kd ro va j) : ∀ (n j : Nat) (f : TT), j + n = E → FI ro va f j → (run ro va n j f).1 = 0 → FI ro va (run ro va n j f).2.2 E
  | 0, j, f, e, x, _ => by
    have e' : j = E := e
    subst e'
    exact x
  | n + 1, j, f, e, x, h => by
    have h' : (if (stp ro va f j).1 = 0 then run ro va n (j + 1) (stp ro va f j).2 else ((stp ro va f j).1, j, f)).1 = 0 := h
    show FI ro va (if (stp ro va f j).1 = 0 then run ro va n (j + 1) (stp ro va f j).2 else ((stp ro va f j).1, j, f)).2.2 E
    by_cases z : (stp ro va f j).1 = 0
    · rw [if_pos z] at h' ⊢
      exact run_fi rf n (j + 1) _ (by omega) (x.go (rf j (by omega)) z) h'
    · rw [if_neg z] at h'
      exact absurd h' z
section
variable {d D : Nat} {h : AH} {dq : Int} {ro va kd : Nat → Int} {E : Nat} {K : AK}
theorem c14 {S : List (Int × Int)} (hD : 4 ≤ D) (g : GK h dq ro va E) (rf : ∀ j, j < E → RF kd ro va j) (cnt : am_m h dq 5 = (S.length : Int)) (hS : S.length ≤ 400) (st : RW (fun i => am_m h (dq + 9) i) 0 (S.map Prod.snd)) (ha : ∀ s ∈ S, 0 ≤ s.2 ∧ s.2 < (E : Int)) (kE : (run ro va E 0 f00).1 ≠ 0 → ∀ h2, FK h h2 dq → am_m h2 30 0 = ((run ro va E 0 f00).2.1 : Int) → K 0 (run ro va E 0 f00).1 h2) (kG : (run ro va E 0 f00).1 = 0 → ∀ h2 h3, CK h dq ro va E h2 E (run ro va E 0 f00).2.2 → Fr 0 53 h2 h3 → (∀ b i, b ≠ dq + 9 → am_m h3 b i = am_m h2 b i) → RW (fun i => am_m h3 (dq + 9) i) 0 (S.map (fun s => (run ro va E 0 f00).2.2 11 s.2)) → K 0 0 h3) : am_call D 14 [(2, 30), (2, dq)] h K := by
  obtain ⟨d, rfl⟩ : ∃ d, D = d + 1 := ⟨D - 1, by omega⟩
  have hq := g.qd
  have E4 := g.E4
  have H : ∀ (n j : Nat) (f : TT) (h1 : AH) (y2 : AV), j + n = E → CK h dq ro va E h1 j f → FI ro va f j → am_m h1 30 0 = (j : Int) → run ro va n j f = run ro va E 0 f00 → WP (d + 1) 14 (9, [(2, 30), (2, dq), y2], [], h1, 0, 0) K := by
    intro n
    induction n with
    | zero =>
      intro j f h1 y2 e x fi po er
      have e' : j = E := e
      subst e'
      refine v14_9 ?_
      rw [x.f2, x.ga, po]
      refine ⟨x.t, x.t, x.t27, fun z => absurd z (by omega), fun _ => ⟨x.t, ?_⟩⟩
      have p14 : am_m h1 dq 14 = dq + 9 ∧ am_t h1 (dq + 9) = 20 ∧ am_l h1 (dq + 9) = 400 := ⟨(x.mg (by omega) (by omega) (by omega) (by omega) (by omega)).trans g.p.f14, (x.tg (by omega)).trans g.p.t9, (x.lg (by omega)).trans g.p.l9⟩
      refine c15 x p14 ((x.mg (by omega) (by omega) (by omega) (by omega) (by omega)).trans cnt) hS (RW.cg (fun i _ _ => x.mg (by omega) (by omega) (by omega) (by omega) (by omega)) st) ha (fun h3 f3 e3 r3 => okx ?_)
      have er' : (0, j, f) = run ro va j 0 f00 := er
      rw [← er'] at kG
      exact kG rfl h1 h3 x f3 e3 r3
    | succ n ih =>
      intro j f h1 y2 e x fi po er
      have er' : (if (stp ro va f j).1 = 0 then run ro va n (j + 1) (stp ro va f j).2 else ((stp ro va f j).1, j, f)) = run ro va E 0 f00 := er
      have rj := rf j (by omega)
      refine v14_9 ?_
      rw [x.f2, x.ga, po]
      refine ⟨x.t, x.t, x.t27, fun _ => ⟨x.t, fun _ => ⟨x.t, c16 (by omega) x fi rj (by omega) po ⟨fun z h2 x2 po2 => okx ⟨fun _ => ⟨x2.t, x2.t, ?_⟩, fun y => absurd rfl y⟩, fun z h2 f2 po2 => okx ⟨fun y => absurd y z, fun _ => ?_⟩⟩⟩, fun z => absurd (show (j : Int) < 400 by omega) z⟩, fun z => absurd (show (j : Int) < (E : Int) by omega) z⟩
      · rw [if_pos z] at er'
        rw [po2, w32_nat (by omega)]
        exact ih (j + 1) _ _ _ (by omega) x2.at (fi.go rj z) (by rw [am_m_w, if_pos ⟨rfl, rfl⟩]) er'
      · rw [if_neg z] at er'
        rw [← er'] at kE
        exact kE z h2 f2 po2
  have e85 : ∀ b i, ¬ (b = dq ∧ 0 ≤ i ∧ i ≤ 4) → am_m (am_w (am_w (am_w (am_w (am_w h dq 0 0) dq 1 0) dq 2 0) dq 3 0) dq 4 100) b i = am_m h b i := fun b i z => by
    rw [am_m_w, if_neg (by omega), am_m_w, if_neg (by omega), am_m_w, if_neg (by omega), am_m_w, if_neg (by omega), am_m_w, if_neg (by omega)]
  refine v14 ⟨g.p.t, v85 ⟨g.p.t, g.p.t, g.p.t, g.p.t, g.p.t, okx ⟨g.t, ?_⟩⟩⟩
  refine H E 0 f00 _ _ (Nat.zero_add _) ?_ FI.i0 (by rw [am_m_w, if_pos ⟨rfl, rfl⟩]; rfl) rfl
  have x0 : CK h dq ro va E (am_w (am_w (am_w (am_w (am_w h dq 0 0) dq 1 0) dq 2 0) dq 3 0) dq 4 100) 0 f00 := by
    refine ⟨g, ((((FK.rf.w hq (by omega)).w hq (by omega)).w hq (by omega)).w hq (by omega)).w hq (by omega), fun as c hc => ?_, by rw [am_m_w, if_pos ⟨rfl, rfl⟩]; rfl, fun as b _ => trivial, fun as off b _ i hi => absurd hi (Nat.not_lt_zero i), fun p hp => absurd hp (Nat.not_lt_zero p), fun k hk => absurd hk (Nat.not_lt_zero k)⟩
    show _ = ((0 : Nat) : Int)
    rw [am_m_w, if_neg (by unfold NC at hc; omega)]
    unfold NC at hc
    rcases hc with y | y | y | y
    · rw [am_m_w, if_neg (by omega), am_m_w, if_neg (by omega), am_m_w, if_neg (by omega), am_m_w, if_pos ⟨rfl, y.2⟩]
      rfl
    · rw [am_m_w, if_neg (by omega), am_m_w, if_neg (by omega), am_m_w, if_pos ⟨rfl, y.2⟩]
      rfl
    · rw [am_m_w, if_neg (by omega), am_m_w, if_pos ⟨rfl, y.2⟩]
      rfl
    · rw [am_m_w, if_pos ⟨rfl, y.2⟩]
      rfl
  exact x0.at
end
