/-! ===== what a year does ===== -/
def f_ct (ss : TT) (p sh v : Int) : Int := if ss 9 (12 * v + p) = 0 then 0 else if sh ≤ ss 4 v then 1 else 0
theorem sm_succ {f : Int → Int} {n : Nat} : sm f (n + 1) = sm f n + f (n : Int) := rfl
/-- what fans pay, the first n voters looked at -/
theorem bf_fact {ss : TT} {p sh bk : Int} (hsh : 1 ≤ sh ∧ sh ≤ 9999) (hb : 0 ≤ bk) (N : Nat) (hr : ∀ v : Nat, v < N → (0 ≤ ss 4 (v : Int) ∧ ss 4 (v : Int) ≤ 9999) ∧ 0 ≤ ss 5 (v : Int) ∧ ss 5 (v : Int) ≤ 1000000000) : ∀ n : Nat, n ≤ N →
    (∀ v : Int, (n : Int) ≤ v → (s_bf ss p sh bk n).2 4 v = ss 4 v ∧ (s_bf ss p sh bk n).2 5 v = ss 5 v) ∧
    (∀ v : Nat, v < n → (s_bf ss p sh bk n).2 4 (v : Int) + (s_bf ss p sh bk n).2 5 (v : Int) = ss 4 (v : Int) + ss 5 (v : Int) ∧ ss 5 (v : Int) ≤ (s_bf ss p sh bk n).2 5 (v : Int) ∧ (ss 9 (12 * (v : Int) + p) = 0 → (s_bf ss p sh bk n).2 5 (v : Int) = ss 5 (v : Int))) ∧
    sm (fun v => (s_bf ss p sh bk n).2 5 v) n = sm (fun v => ss 5 v) n + sm (f_tg ss p sh) n - (bk - (s_bf ss p sh bk n).1) ∧
    (s_bf ss p sh bk n).1 = max 0 (bk - sm (f_ct ss p sh) n) := by
  intro n
  induction n with
  | zero =>
    intro _
    refine ⟨fun v _ => ⟨rfl, rfl⟩, fun v hv => absurd hv (by omega), ?_, ?_⟩
    · show (0 : Int) = 0 + 0 - (bk - bk); omega
    · show bk = max 0 (bk - 0); omega
  | succ n ih =>
    intro hn
    obtain ⟨i1, i2, i3, i4⟩ := ih (by omega)
    obtain ⟨h1, h2⟩ := hr n (by omega)
    obtain ⟨q4, q5⟩ := i1 (n : Int) (Int.le_refl _)
    rw [s_bf_succ, sm_succ, sm_succ, sm_succ, sm_succ]
    generalize s_bf ss p sh bk n = r at i1 i2 i3 i4 q4 q5 ⊢
    generalize sm (f_ct ss p sh) n = cs at i4 ⊢
    generalize sm (f_tg ss p sh) n = ts at i3 ⊢
    generalize sm (fun v => ss 5 v) n = s5 at i3 ⊢
    have key : ∀ (r' : Int × TT) (pay : Int), (∀ v : Int, ¬ v = (n : Int) → r'.2 4 v = r.2 4 v ∧ r'.2 5 v = r.2 5 v) → r'.2 4 (n : Int) = ss 4 (n : Int) - pay → r'.2 5 (n : Int) = ss 5 (n : Int) + pay → 0 ≤ pay → (ss 9 (12 * (n : Int) + p) = 0 → pay = 0) → pay - r'.1 + r.1 = f_tg ss p sh (n : Int) → r'.1 = max 0 (bk - (cs + f_ct ss p sh (n : Int))) →
        (∀ v : Int, ((n + 1 : Nat) : Int) ≤ v → r'.2 4 v = ss 4 v ∧ r'.2 5 v = ss 5 v) ∧
        (∀ v : Nat, v < n + 1 → r'.2 4 (v : Int) + r'.2 5 (v : Int) = ss 4 (v : Int) + ss 5 (v : Int) ∧ ss 5 (v : Int) ≤ r'.2 5 (v : Int) ∧ (ss 9 (12 * (v : Int) + p) = 0 → r'.2 5 (v : Int) = ss 5 (v : Int))) ∧
        sm (fun v => r'.2 5 v) n + r'.2 5 (n : Int) = s5 + ss 5 (n : Int) + (ts + f_tg ss p sh (n : Int)) - (bk - r'.1) ∧
        r'.1 = max 0 (bk - (cs + f_ct ss p sh (n : Int))) := by
      intro r' pay e1 e4 e5 p0 pz e6 e7
      refine ⟨fun v hv => ?_, fun v hv => ?_, ?_, e7⟩
      · obtain ⟨a1, a2⟩ := e1 v (by omega)
        obtain ⟨b1, b2⟩ := i1 v (by omega)
        exact ⟨a1.trans b1, a2.trans b2⟩
      · by_cases e : v = n
        · subst e
          rw [e4, e5]
          exact ⟨by omega, by omega, fun z => by rw [pz z]; omega⟩
        · obtain ⟨a1, a2⟩ := e1 (v : Int) (by omega)
          rw [a1, a2]
          exact i2 v (by omega)
      · have : sm (fun v => r'.2 5 v) n = sm (fun v => r.2 5 v) n := sm_congr (fun i hi => (e1 (i : Int) (by omega)).2)
        rw [this, i3, e5]
        omega
    unfold s_b1
    by_cases z : ss 9 (12 * (n : Int) + p) = 0
    · rw [if_pos z]
      refine key r 0 (fun v _ => ⟨rfl, rfl⟩) (by omega) (by omega) (by omega) (fun _ => rfl) ?_ ?_
      · unfold f_tg; rw [if_pos z]; omega
      · unfold f_ct; rw [if_pos z, i4]; omega
    · rw [if_neg z]
      have et : f_tg ss p sh (n : Int) = min sh (ss 4 (n : Int)) := by unfold f_tg; rw [if_neg z]
      have ec : f_ct ss p sh (n : Int) = if sh ≤ ss 4 (n : Int) then 1 else 0 := by unfold f_ct; rw [if_neg z]
      rw [q4, q5]
      by_cases y : min sh (ss 4 (n : Int)) = sh ∧ 0 < r.1
      · rw [if_pos y]
        have y1 := y.1
        have y2 := y.2
        have w : w32 (ss 5 (n : Int) + (min sh (ss 4 (n : Int)) + -1)) = ss 5 (n : Int) + (min sh (ss 4 (n : Int)) + -1) := w32_id (by omega) (by omega)
        rw [w]
        clear w
        refine key _ (min sh (ss 4 (n : Int)) + -1) (fun v hv => ⟨?_, ?_⟩) ?_ su_eq (by omega) (fun u => absurd u z) ?_ ?_
        · dsimp only
          rw [su_ne (by omega), su_ne (fun u => hv u.2)]
        · dsimp only
          rw [su_ne (fun u => hv u.2), su_ne (by omega)]
        · dsimp only
          rw [su_ne (by omega), su_eq]
        · rw [et]
          show min sh (ss 4 (n : Int)) + -1 - (r.1 + -1) + r.1 = _
          omega
        · rw [ec, if_pos (by omega)]
          show r.1 + -1 = _
          omega
      · rw [if_neg y]
        have w : w32 (ss 5 (n : Int) + min sh (ss 4 (n : Int))) = ss 5 (n : Int) + min sh (ss 4 (n : Int)) := w32_id (by omega) (by omega)
        rw [w]
        clear w
        refine key _ (min sh (ss 4 (n : Int))) (fun v hv => ⟨?_, ?_⟩) ?_ su_eq (by omega) (fun u => absurd u z) ?_ ?_
        · dsimp only
          rw [su_ne (by omega), su_ne (fun u => hv u.2)]
        · dsimp only
          rw [su_ne (fun u => hv u.2), su_ne (by omega)]
        · dsimp only
          rw [su_ne (by omega), su_eq]
        · rw [et]
          show min sh (ss 4 (n : Int)) - r.1 + r.1 = _
          omega
        · rw [ec]
          show r.1 = _
          by_cases x : sh ≤ ss 4 (n : Int)
          · rw [if_pos x]
            have : ¬ 0 < r.1 := fun u => y ⟨by omega, u⟩
            omega
          · rw [if_neg x]; omega
theorem tg_ct {ss : TT} {p sh : Int} {N : Nat} (hr : ∀ v : Nat, v < N → 0 ≤ ss 4 (v : Int)) (hsh : 1 ≤ sh) : ∀ n : Nat, n ≤ N → sm (f_tg ss p sh) n = sm (f_tg ss p (sh - 1)) n + sm (f_ct ss p sh) n
  | 0, _ => by show (0 : Int) = 0 + 0; omega
  | n + 1, hn => by
    have ih := tg_ct (p := p) hr hsh n (by omega)
    have h0 := hr n (by omega)
    rw [sm_succ, sm_succ, sm_succ, ih]
    have : f_tg ss p sh (n : Int) = f_tg ss p (sh - 1) (n : Int) + f_ct ss p sh (n : Int) := by
      unfold f_tg f_ct
      by_cases z : ss 9 (12 * (n : Int) + p) = 0
      · rw [if_pos z, if_pos z, if_pos z]; rfl
      · rw [if_neg z, if_neg z, if_neg z]
        by_cases x : sh ≤ ss 4 (n : Int)
        · rw [if_pos x]; omega
        · rw [if_neg x]; omega
    omega
theorem tg_0 {ss : TT} {p : Int} {N : Nat} (hr : ∀ v : Nat, v < N → 0 ≤ ss 4 (v : Int)) : ∀ n : Nat, n ≤ N → sm (f_tg ss p 0) n = 0
  | 0, _ => rfl
  | n + 1, hn => by
    have h0 := hr n (by omega)
    rw [sm_succ, tg_0 hr n (by omega)]
    unfold f_tg
    by_cases z : ss 9 (12 * (n : Int) + p) = 0
    · rw [if_pos z]; rfl
    · rw [if_neg z]; omega
theorem tg_nf {ss : TT} {p x : Int} {N : Nat} (h9 : ∀ i, ss 9 i = 0 ∨ ss 9 i = 1) (hr : ∀ v : Nat, v < N → 0 ≤ ss 4 (v : Int) ∧ ss 4 (v : Int) ≤ 9999) : ∀ n : Nat, n ≤ N → sm (f_tg ss p x) n ≤ 9999 * sm (f_nf ss p) n
  | 0, _ => by show (0 : Int) ≤ 9999 * 0; omega
  | n + 1, hn => by
    have ih := tg_nf (p := p) (x := x) h9 hr n (by omega)
    have h0 := hr n (by omega)
    have hf := h9 (12 * (n : Int) + p)
    rw [sm_succ, sm_succ]
    have e1 : f_nf ss p (n : Int) = ss 9 (12 * (n : Int) + p) := rfl
    have e2 : f_tg ss p x (n : Int) ≤ 9999 * f_nf ss p (n : Int) := by
      rw [e1]
      unfold f_tg
      by_cases z : ss 9 (12 * (n : Int) + p) = 0
      · rw [if_pos z]; omega
      · rw [if_neg z]; omega
    omega
/-- buying: all that is paid is the cost -/
theorem buy_fact {pp ss : TT} {p : Int} (hI : PI pp) (hS : SI pp ss) (h0 : 0 ≤ p) (h1 : p < pp 1 0) (hs : s_sh pp ss p ≠ -1) (h5 : ∀ v, 0 ≤ v → v < pp 2 0 → 0 ≤ ss 5 v ∧ ss 5 v ≤ 1000000000) :
    (∀ v, 0 ≤ v → v < pp 2 0 → (s_bf ss p (s_sh pp ss p) (s_tg pp ss p (s_sh pp ss p) - ss 6 p) (pp 2 0).toNat).2 4 v + (s_bf ss p (s_sh pp ss p) (s_tg pp ss p (s_sh pp ss p) - ss 6 p) (pp 2 0).toNat).2 5 v = ss 4 v + ss 5 v ∧ ss 5 v ≤ (s_bf ss p (s_sh pp ss p) (s_tg pp ss p (s_sh pp ss p) - ss 6 p) (pp 2 0).toNat).2 5 v ∧ (ss 9 (12 * v + p) = 0 → (s_bf ss p (s_sh pp ss p) (s_tg pp ss p (s_sh pp ss p) - ss 6 p) (pp 2 0).toNat).2 5 v = ss 5 v)) ∧
    sm (fun v => (s_bf ss p (s_sh pp ss p) (s_tg pp ss p (s_sh pp ss p) - ss 6 p) (pp 2 0).toNat).2 5 v) (pp 2 0).toNat = sm (fun v => ss 5 v) (pp 2 0).toNat + ss 6 p ∧ 1 ≤ s_nf pp ss p := by
  have nv := hI.nv
  have cb := hS.cost h0 h1
  have np : ∀ {i : Int}, 0 ≤ i → i < pp 2 0 → 0 ≤ ss 4 i ∧ ss 4 i ≤ 9999 := fun a b => hS.purse a b
  have z : ¬ s_tg pp ss p 9999 < ss 6 p := fun z => hs (by unfold s_sh; rw [if_pos z])
  obtain ⟨t, e, t0, t1, t2, t3⟩ := s_sh_spec z cb.1
  rw [e]
  have hr : ∀ v : Nat, v < (pp 2 0).toNat → (0 ≤ ss 4 (v : Int) ∧ ss 4 (v : Int) ≤ 9999) ∧ 0 ≤ ss 5 (v : Int) ∧ ss 5 (v : Int) ≤ 1000000000 := fun v hv => ⟨np (by omega) (by omega), h5 _ (by omega) (by omega)⟩
  have hr4 : ∀ v : Nat, v < (pp 2 0).toNat → 0 ≤ ss 4 (v : Int) := fun v hv => (hr v hv).1.1
  obtain ⟨f1, f2, f3, f4⟩ := bf_fact (p := p) (sh := t) (bk := s_tg pp ss p t - ss 6 p) ⟨t0, t1⟩ (by omega) _ hr _ (Nat.le_refl _)
  have g := tg_ct (p := p) hr4 t0 _ (Nat.le_refl _)
  have lt : sm (f_tg ss p (t - 1)) (pp 2 0).toNat < ss 6 p := by
    by_cases t4 : t = 1
    · rw [t4, show (1 : Int) - 1 = 0 by omega, tg_0 hr4 _ (Nat.le_refl _)]; omega
    · exact t3 (t - 1) (by omega) (by omega)
  have nf := tg_nf (p := p) (x := t) (fun i => hS.fan i) (fun v hv => (hr v hv).1) _ (Nat.le_refl (pp 2 0).toNat)
  have e1 : s_tg pp ss p t = sm (f_tg ss p t) (pp 2 0).toNat := rfl
  have e2 : s_nf pp ss p = sm (f_nf ss p) (pp 2 0).toNat := rfl
  refine ⟨fun v v0 v1 => ?_, ?_, ?_⟩
  · have := f2 v.toNat (by omega)
    rw [Int.toNat_of_nonneg v0] at this
    exact this
  · rw [f3, f4]
    omega
  · omega
/-- what was open in c and is built in s; out of the pot; bought -/
def f_nw (c s : TT) (p : Int) : Int := if c 7 p = -1 ∧ ¬ s 7 p = -1 then c 6 p else 0
def f_np (c s : TT) (p : Int) : Int := if c 7 p = -1 ∧ ¬ s 7 p = -1 ∧ s 8 p = 0 then c 6 p else 0
def f_nq (c s : TT) (p : Int) : Int := if c 7 p = -1 ∧ ¬ s 7 p = -1 ∧ ¬ s 8 p = 0 then c 6 p else 0
def YI (pp c s : TT) : Prop := (SI pp s) ∧ (s 0 0 = c 0 0) ∧ (s 1 0 = c 1 0) ∧ (∀ p, s 6 p = c 6 p) ∧ (∀ i, s 9 i = c 9 i) ∧ (∀ v, 0 ≤ v → v < pp 2 0 → s 4 v + s 5 v = c 4 v + c 5 v ∧ c 5 v ≤ s 5 v) ∧ (∀ p, 0 ≤ p → p < pp 1 0 → (c 7 p ≠ -1 → s 7 p = c 7 p ∧ s 8 p = c 8 p) ∧ (c 7 p = -1 → (s 7 p = -1 ∧ s 8 p = c 8 p) ∨ (s 7 p = c 0 0 ∧ (s 8 p = 1 → 1 ≤ s_nf pp c p)))) ∧ (s 3 0 = c 3 0 + sm (f_nw c s) (pp 1 0).toNat) ∧ (s 2 0 = c 2 0 - sm (f_np c s) (pp 1 0).toNat) ∧ (sm (fun v => s 5 v) (pp 2 0).toNat = sm (fun v => c 5 v) (pp 2 0).toNat + sm (f_nq c s) (pp 1 0).toNat) ∧ (∀ v, 0 ≤ v → v < pp 2 0 → c 5 v < s 5 v → ∃ p, (0 ≤ p ∧ p < pp 1 0) ∧ c 9 (12 * v + p) = 1 ∧ c 7 p = -1 ∧ ¬ s 7 p = -1 ∧ s 8 p = 1) ∧ (∀ w, 0 ≤ w → w < pp 0 0 → s_yw pp s w ≤ pp 4 w)
theorem YI.I {pp c s : TT} (x : YI pp c s) : SI pp s := x.1
theorem YI.y {pp c s : TT} (x : YI pp c s) : s 0 0 = c 0 0 := x.2.1
theorem YI.b {pp c s : TT} (x : YI pp c s) : s 1 0 = c 1 0 := x.2.2.1
theorem YI.k {pp c s : TT} (x : YI pp c s) : ∀ p, s 6 p = c 6 p := x.2.2.2.1
theorem YI.f {pp c s : TT} (x : YI pp c s) : ∀ i, s 9 i = c 9 i := x.2.2.2.2.1
theorem YI.m {pp c s : TT} (x : YI pp c s) : ∀ v, 0 ≤ v → v < pp 2 0 → s 4 v + s 5 v = c 4 v + c 5 v ∧ c 5 v ≤ s 5 v := x.2.2.2.2.2.1
theorem YI.q {pp c s : TT} (x : YI pp c s) : ∀ p, 0 ≤ p → p < pp 1 0 → (c 7 p ≠ -1 → s 7 p = c 7 p ∧ s 8 p = c 8 p) ∧ (c 7 p = -1 → (s 7 p = -1 ∧ s 8 p = c 8 p) ∨ (s 7 p = c 0 0 ∧ (s 8 p = 1 → 1 ≤ s_nf pp c p))) := x.2.2.2.2.2.2.1
theorem YI.o {pp c s : TT} (x : YI pp c s) : s 3 0 = c 3 0 + sm (f_nw c s) (pp 1 0).toNat := x.2.2.2.2.2.2.2.1
theorem YI.t {pp c s : TT} (x : YI pp c s) : s 2 0 = c 2 0 - sm (f_np c s) (pp 1 0).toNat := x.2.2.2.2.2.2.2.2.1
theorem YI.z {pp c s : TT} (x : YI pp c s) : sm (fun v => s 5 v) (pp 2 0).toNat = sm (fun v => c 5 v) (pp 2 0).toNat + sm (f_nq c s) (pp 1 0).toNat := x.2.2.2.2.2.2.2.2.2.1
theorem YI.l {pp c s : TT} (x : YI pp c s) : ∀ v, 0 ≤ v → v < pp 2 0 → c 5 v < s 5 v → ∃ p, (0 ≤ p ∧ p < pp 1 0) ∧ c 9 (12 * v + p) = 1 ∧ c 7 p = -1 ∧ ¬ s 7 p = -1 ∧ s 8 p = 1 := x.2.2.2.2.2.2.2.2.2.2.1
theorem YI.w {pp c s : TT} (x : YI pp c s) : ∀ w, 0 ≤ w → w < pp 0 0 → s_yw pp s w ≤ pp 4 w := x.2.2.2.2.2.2.2.2.2.2.2
/-- bounds that hold where a year begins -/
def YB0 (pp c : TT) : Prop := (SI pp c) ∧ (SB pp c) ∧ (∀ p, 0 ≤ p → p < pp 1 0 → c 7 p < c 0 0) ∧ (∀ v, 0 ≤ v → v < pp 2 0 → 0 ≤ c 5 v ∧ c 5 v ≤ 900000000) ∧ (0 ≤ c 3 0 ∧ c 3 0 ≤ 900000000)
theorem YB0.I {pp c : TT} (x : YB0 pp c) : SI pp c := x.1
theorem YB0.s {pp c : TT} (x : YB0 pp c) : SB pp c := x.2.1
theorem YB0.h {pp c : TT} (x : YB0 pp c) : ∀ p, 0 ≤ p → p < pp 1 0 → c 7 p < c 0 0 := x.2.2.1
theorem YB0.v {pp c : TT} (x : YB0 pp c) : ∀ v, 0 ≤ v → v < pp 2 0 → 0 ≤ c 5 v ∧ c 5 v ≤ 900000000 := x.2.2.2.1
theorem YB0.o {pp c : TT} (x : YB0 pp c) : 0 ≤ c 3 0 ∧ c 3 0 ≤ 900000000 := x.2.2.2.2
theorem YI.rf {pp c : TT} (hI : PI pp) (b : YB0 pp c) : YI pp c c := by
  have z0 : ∀ n, sm (f_nw c c) n = 0 ∧ sm (f_np c c) n = 0 ∧ sm (f_nq c c) n = 0 := by
    intro n
    induction n with
    | zero => exact ⟨rfl, rfl, rfl⟩
    | succ n ih =>
      obtain ⟨i1, i2, i3⟩ := ih
      rw [sm_succ, sm_succ, sm_succ, i1, i2, i3]
      unfold f_nw f_np f_nq
      refine ⟨?_, ?_, ?_⟩
      · rw [if_neg (fun z => z.2 z.1)]; rfl
      · rw [if_neg (fun z => z.2.1 z.1)]; rfl
      · rw [if_neg (fun z => z.2.1 z.1)]; rfl
  obtain ⟨z1, z2, z3⟩ := z0 (pp 1 0).toNat
  refine ⟨b.I, rfl, rfl, fun _ => rfl, fun _ => rfl, fun _ _ _ => ⟨rfl, Int.le_refl _⟩, fun p _ _ => ⟨fun _ => ⟨rfl, rfl⟩, fun z => Or.inl ⟨z, rfl⟩⟩, by omega, by omega, by omega, fun v _ _ z => absurd z (by omega), fun w w0 w1 => ?_⟩
  rw [yw_zero b.h hI]
  exact (hI.cap w0 w1).1
theorem s_bld_3 {ss : TT} {p : Int} : s_bld ss p 3 0 = w32 (ss 3 0 + ss 6 p) := su_eq
theorem yw_bld2 {pp s s2 : TT} {p w : Int} (h0 : 0 ≤ p) (h1 : p < pp 1 0) (hz : s 7 p = -1) (hy : 0 ≤ s 0 0) (e0 : s2 0 0 = s 0 0) (e7 : s2 7 p = s 0 0) (e : ∀ i, ¬ i = p → s2 7 i = s 7 i) : s_yw pp s2 w = s_yw pp s w + (if pp 5 p = w then 1 else 0) := by
  unfold s_yw
  rw [sm_pt (f := f_yw pp s w) (g := f_yw pp s2 w) h0 (fun i hi => by unfold f_yw; rw [e _ hi, e0]), if_pos (by omega)]
  unfold f_yw
  rw [e7, e0, hz]
  by_cases z : pp 5 p = w
  · rw [if_pos z, if_pos z, if_pos z, if_pos rfl, if_neg (by omega)]; omega
  · rw [if_neg z, if_neg z, if_neg z]; omega
section
variable {pp c s s2 : TT} {p : Int}
theorem nw_pt (h0 : 0 ≤ p) (h1 : p < pp 1 0) (hc : c 7 p = -1) (hz : s 7 p = -1) (e7 : ¬ s2 7 p = -1) (e : ∀ i, ¬ i = p → s2 7 i = s 7 i) : sm (f_nw c s2) (pp 1 0).toNat = sm (f_nw c s) (pp 1 0).toNat + c 6 p := by
  rw [sm_pt (f := f_nw c s) (g := f_nw c s2) h0 (fun i hi => by unfold f_nw; rw [e _ hi]), if_pos (by omega)]
  unfold f_nw
  rw [if_pos ⟨hc, e7⟩, if_neg (fun z => z.2 hz)]
  omega
theorem np_pt (h0 : 0 ≤ p) (h1 : p < pp 1 0) (hc : c 7 p = -1) (hz : s 7 p = -1) (e7 : ¬ s2 7 p = -1) (e : ∀ i, ¬ i = p → s2 7 i = s 7 i ∧ s2 8 i = s 8 i) : sm (f_np c s2) (pp 1 0).toNat = sm (f_np c s) (pp 1 0).toNat + (if s2 8 p = 0 then c 6 p else 0) := by
  rw [sm_pt (f := f_np c s) (g := f_np c s2) h0 (fun i hi => by unfold f_np; rw [(e _ hi).1, (e _ hi).2]), if_pos (by omega)]
  unfold f_np
  rw [if_neg (c := c 7 p = -1 ∧ ¬ s 7 p = -1 ∧ s 8 p = 0) (fun z => z.2.1 hz)]
  by_cases y : s2 8 p = 0
  · rw [if_pos ⟨hc, e7, y⟩, if_pos y]; omega
  · rw [if_neg (fun z => y z.2.2), if_neg y]; omega
theorem nq_pt (h0 : 0 ≤ p) (h1 : p < pp 1 0) (hc : c 7 p = -1) (hz : s 7 p = -1) (e7 : ¬ s2 7 p = -1) (e : ∀ i, ¬ i = p → s2 7 i = s 7 i ∧ s2 8 i = s 8 i) : sm (f_nq c s2) (pp 1 0).toNat = sm (f_nq c s) (pp 1 0).toNat + (if s2 8 p = 0 then 0 else c 6 p) := by
  rw [sm_pt (f := f_nq c s) (g := f_nq c s2) h0 (fun i hi => by unfold f_nq; rw [(e _ hi).1, (e _ hi).2]), if_pos (by omega)]
  unfold f_nq
  rw [if_neg (c := c 7 p = -1 ∧ ¬ s 7 p = -1 ∧ ¬ s 8 p = 0) (fun z => z.2.1 hz)]
  by_cases y : s2 8 p = 0
  · rw [if_neg (fun z => z.2.2 y), if_pos y]; omega
  · rw [if_pos ⟨hc, e7, y⟩, if_neg y]; omega
theorem nw_bd (hN : pp 1 0 ≤ 12) (hc : SI pp c) : 0 ≤ sm (f_nw c s) (pp 1 0).toNat ∧ sm (f_nw c s) (pp 1 0).toNat ≤ 120000 := by
  have := sm_bd (f := f_nw c s) (B := 9999) (n := (pp 1 0).toNat) (fun i hi => by
    have := hc.cost (i := (i : Int)) (by omega) (by omega)
    unfold f_nw
    split <;> omega)
  omega
theorem YI.op (x : YI pp c s) (b : YB0 pp c) (h0 : 0 ≤ p) (h1 : p < pp 1 0) (hz : s 7 p = -1) : c 7 p = -1 := by
  by_cases e : c 7 p = -1
  · exact e
  · have := ((x.q p h0 h1).1 e).1
    omega
theorem YI.v5 (x : YI pp c s) (b : YB0 pp c) {v : Int} (v0 : 0 ≤ v) (v1 : v < pp 2 0) : 0 ≤ s 5 v ∧ s 5 v ≤ 1000000000 := by
  have m := x.m v v0 v1
  have a := b.v v v0 v1
  have i := b.I.purse v0 v1
  have j := x.I.purse v0 v1
  omega
theorem buy_SI (hI : PI pp) (hS : SI pp s) (h0 : 0 ≤ p) (h1 : p < pp 1 0) (rs : s_sh pp s p ≠ -1) : SI pp (s_buy pp s p) := ((SI.bf hI hS h0 h1 rs (s_tg pp s p (s_sh pp s p) - s 6 p) _ (Nat.le_refl _)).u8 (i := p) (v := 1) (Or.inr rfl)).bld
theorem nf_cg (e : ∀ i, s 9 i = c 9 i) : s_nf pp s p = s_nf pp c p := by
  unfold s_nf
  exact sm_congr (fun i _ => by unfold f_nf; rw [e])
theorem YI.buy (hI : PI pp) (x : YI pp c s) (b : YB0 pp c) (h0 : 0 ≤ p) (h1 : p < pp 1 0) (hz : s 7 p = -1) (hr : s_yw pp s (pp 5 p) < pp 4 (pp 5 p)) (hs : s_sh pp s p ≠ -1) : YI pp c (s_buy pp s p) := by
  have hN := hI.np
  have hc := x.op b h0 h1 hz
  obtain ⟨f1, f2, f3⟩ := buy_fact hI x.I h0 h1 hs (fun v v0 v1 => x.v5 b v0 v1)
  have nw := nw_bd (s := s) hN.2 b.I
  have cb := b.I.cost h0 h1
  have o := b.o
  have y0 := x.I.yr
  have e4 : ∀ v, s_buy pp s p 4 v = (s_bf s p (s_sh pp s p) (s_tg pp s p (s_sh pp s p) - s 6 p) (pp 2 0).toNat).2 4 v := fun v => (s_bld_ne (by omega) (by omega)).trans (su_ne (by omega))
  have e5 : ∀ v, s_buy pp s p 5 v = (s_bf s p (s_sh pp s p) (s_tg pp s p (s_sh pp s p) - s 6 p) (pp 2 0).toNat).2 5 v := fun v => (s_bld_ne (by omega) (by omega)).trans (su_ne (by omega))
  have e8 : s_buy pp s p 8 p = 1 := (s_bld_ne (by omega) (by omega)).trans su_eq
  have e8n : ∀ i, ¬ i = p → s_buy pp s p 8 i = s 8 i := fun i hi => (s_bld_ne (by omega) (by omega)).trans ((su_ne (by omega)).trans (s_bf_ne (by decide) (by decide) _))
  have e7 : s_buy pp s p 7 p = s 0 0 := s_buy_7
  have e7n : ∀ i, ¬ i = p → s_buy pp s p 7 i = s 7 i := fun i hi => s_buy_ne (Or.inr (Or.inr (Or.inr (Or.inr (Or.inr ⟨rfl, hi⟩)))))
  have e3 : s_buy pp s p 3 0 = s 3 0 + s 6 p := by
    have a1 : s_buy pp s p 3 0 = w32 (su (s_bf s p (s_sh pp s p) (s_tg pp s p (s_sh pp s p) - s 6 p) (pp 2 0).toNat).2 8 p 1 3 0 + su (s_bf s p (s_sh pp s p) (s_tg pp s p (s_sh pp s p) - s 6 p) (pp 2 0).toNat).2 8 p 1 6 p) := s_bld_3
    have a2 : su (s_bf s p (s_sh pp s p) (s_tg pp s p (s_sh pp s p) - s 6 p) (pp 2 0).toNat).2 8 p 1 3 0 = s 3 0 := (su_ne (by omega)).trans (s_bf_ne (by decide) (by decide) _)
    have a3 : su (s_bf s p (s_sh pp s p) (s_tg pp s p (s_sh pp s p) - s 6 p) (pp 2 0).toNat).2 8 p 1 6 p = s 6 p := (su_ne (by omega)).trans (s_bf_ne (by decide) (by decide) _)
    rw [a1, a2, a3]
    have k := x.k p
    have xo := x.o
    exact w32_id (by omega) (by omega)
  have e0 : s_buy pp s p 0 0 = s 0 0 := s_buy_ne (Or.inl rfl)
  have n7 : ¬ s_buy pp s p 7 p = -1 := by rw [e7]; omega
  refine ⟨buy_SI hI x.I h0 h1 hs, e0.trans x.y, (s_buy_ne (Or.inr (Or.inl rfl))).trans x.b, fun i => (s_buy_ne (Or.inr (Or.inr (Or.inr (Or.inl rfl))))).trans (x.k i), fun i => (s_buy_ne (Or.inr (Or.inr (Or.inr (Or.inr (Or.inl rfl)))))).trans (x.f i), fun v v0 v1 => ?_, fun i i0 i1 => ?_, ?_, ?_, ?_, fun v v0 v1 hl => ?_, fun w w0 w1 => ?_⟩
  · obtain ⟨g1, g2, -⟩ := f1 v v0 v1
    have m := x.m v v0 v1
    rw [e4, e5]
    omega
  · by_cases e : i = p
    · subst e
      refine ⟨fun z => absurd hc z, fun _ => Or.inr ⟨e7.trans x.y, fun _ => ?_⟩⟩
      rw [← nf_cg x.f]
      exact f3
    · rw [e7n i e, e8n i e]
      exact x.q i i0 i1
  · rw [nw_pt h0 h1 hc hz n7 e7n, e3, x.o, x.k p]
    omega
  · rw [np_pt h0 h1 hc hz n7 (fun i hi => ⟨e7n i hi, e8n i hi⟩), e8, if_neg (by decide)]
    have : s_buy pp s p 2 0 = s 2 0 := s_buy_ne (Or.inr (Or.inr (Or.inl rfl)))
    rw [this, x.t]
    omega
  · rw [nq_pt h0 h1 hc hz n7 (fun i hi => ⟨e7n i hi, e8n i hi⟩), e8, if_neg (by decide)]
    have : sm (fun v => s_buy pp s p 5 v) (pp 2 0).toNat = sm (fun v => (s_bf s p (s_sh pp s p) (s_tg pp s p (s_sh pp s p) - s 6 p) (pp 2 0).toNat).2 5 v) (pp 2 0).toNat := sm_congr (fun i _ => e5 _)
    rw [this, f2, x.z, x.k p]
    omega
  · obtain ⟨g1, g2, g3⟩ := f1 v v0 v1
    rw [e5] at hl
    by_cases y : s 9 (12 * v + p) = 0
    · rw [g3 y] at hl
      obtain ⟨p2, r1, r2, r3, r4, r5⟩ := x.l v v0 v1 hl
      have np : ¬ p2 = p := fun e => r4 (by rw [e]; exact hz)
      exact ⟨p2, r1, r2, r3, by rw [e7n p2 np]; exact r4, by rw [e8n p2 np]; exact r5⟩
    · refine ⟨p, ⟨h0, h1⟩, ?_, hc, n7, e8⟩
      have a := x.I.fan (12 * v + p)
      have b2 := x.f (12 * v + p)
      omega
  · rw [yw_bld2 h0 h1 hz y0.1 e0 e7 e7n]
    have a := x.w w w0 w1
    by_cases e : pp 5 p = w
    · rw [if_pos e]
      rw [e] at hr
      omega
    · rw [if_neg e]; omega
theorem YI.pot (hI : PI pp) (x : YI pp c s) (b : YB0 pp c) (h0 : 0 ≤ p) (h1 : p < pp 1 0) (hz : s 7 p = -1) (hr : s_yw pp s (pp 5 p) < pp 4 (pp 5 p)) (hp : s 6 p ≤ s 2 0) : YI pp c (s_pot s p) := by
  have hN := hI.np
  have hc := x.op b h0 h1 hz
  have nw := nw_bd (s := s) hN.2 b.I
  have cb := b.I.cost h0 h1
  have o := b.o
  have k := x.k p
  have po := x.I.pot
  have y0 := x.I.yr
  have ne : ∀ k i, ¬ (k = 7 ∧ i = p) → ¬ (k = 3 ∧ i = 0) → ¬ (k = 2 ∧ i = 0) → s_pot s p k i = s k i := fun k i a1 a2 a3 => (s_bld_ne a1 a2).trans (su_ne a3)
  have e8 : s 8 p = c 8 p := by
    rcases (x.q p h0 h1).2 hc with ⟨-, a⟩ | ⟨a, -⟩
    · exact a
    · have := x.y
      omega
  have c8 : c 8 p = 0 := by
    rcases b.I.bought h0 h1 with a | a
    · exact a
    · exact absurd hc (b.s p h0 h1 a)
  have e7 : s_pot s p 7 p = s 0 0 := s_bld_7.trans (su_ne (by omega))
  have e7n : ∀ i, ¬ i = p → s_pot s p 7 i = s 7 i := fun i hi => ne 7 i (by omega) (by omega) (by omega)
  have e8n : ∀ i, s_pot s p 8 i = s 8 i := fun i => ne 8 i (by omega) (by omega) (by omega)
  have e3 : s_pot s p 3 0 = s 3 0 + s 6 p := by
    have a1 : s_pot s p 3 0 = w32 (su s 2 0 (s 2 0 - s 6 p) 3 0 + su s 2 0 (s 2 0 - s 6 p) 6 p) := s_bld_3
    rw [a1, su_ne (by omega), su_ne (by omega)]
    have xo := x.o
    exact w32_id (by omega) (by omega)
  have e2 : s_pot s p 2 0 = s 2 0 - s 6 p := (s_bld_ne (by omega) (by omega)).trans su_eq
  have e0 : s_pot s p 0 0 = s 0 0 := ne 0 0 (by omega) (by omega) (by omega)
  have n7 : ¬ s_pot s p 7 p = -1 := by rw [e7]; omega
  refine ⟨(x.I.u2 ⟨by omega, by omega⟩).bld, e0.trans x.y, (ne 1 0 (by omega) (by omega) (by omega)).trans x.b, fun i => (ne 6 i (by omega) (by omega) (by omega)).trans (x.k i), fun i => (ne 9 i (by omega) (by omega) (by omega)).trans (x.f i), fun v v0 v1 => ?_, fun i i0 i1 => ?_, ?_, ?_, ?_, fun v v0 v1 hl => ?_, fun w w0 w1 => ?_⟩
  · rw [ne 4 v (by omega) (by omega) (by omega), ne 5 v (by omega) (by omega) (by omega)]
    exact x.m v v0 v1
  · by_cases e : i = p
    · subst e
      refine ⟨fun z => absurd hc z, fun _ => Or.inr ⟨e7.trans x.y, fun z => ?_⟩⟩
      rw [e8n, e8, c8] at z
      exact absurd z (by decide)
    · rw [e7n i e, e8n i]
      exact x.q i i0 i1
  · rw [nw_pt h0 h1 hc hz n7 e7n, e3, x.o, x.k p]
    omega
  · rw [np_pt h0 h1 hc hz n7 (fun i hi => ⟨e7n i hi, e8n i⟩), e8n, e8, c8, if_pos rfl, e2, x.t, x.k p]
    omega
  · rw [nq_pt h0 h1 hc hz n7 (fun i hi => ⟨e7n i hi, e8n i⟩), e8n, e8, c8, if_pos rfl]
    have : sm (fun v => s_pot s p 5 v) (pp 2 0).toNat = sm (fun v => s 5 v) (pp 2 0).toNat := sm_congr (fun i _ => ne 5 _ (by omega) (by omega) (by omega))
    rw [this, x.z]
    omega
  · rw [ne 5 v (by omega) (by omega) (by omega)] at hl
    obtain ⟨p2, r1, r2, r3, r4, r5⟩ := x.l v v0 v1 hl
    have np : ¬ p2 = p := fun e => r4 (by rw [e]; exact hz)
    exact ⟨p2, r1, r2, r3, by rw [e7n p2 np]; exact r4, by rw [e8n p2]; exact r5⟩
  · rw [yw_bld2 h0 h1 hz y0.1 e0 e7 e7n]
    have a := x.w w w0 w1
    by_cases e : pp 5 p = w
    · rw [if_pos e]
      rw [e] at hr
      omega
    · rw [if_neg e]; omega
end
theorem nx_rm {pp ss : TT} {tt : Int → List Op} {lo : Int} (hz : ¬ s_nx pp ss tt lo = -1) : s_yw pp ss (pp 5 (s_nx pp ss tt lo)) < pp 4 (pp 5 (s_nx pp ss tt lo)) := by
  rcases nxt_rg (pp := pp) (ss := ss) (tt := tt) (lo := lo) (pp 1 0).toNat with z | z
  · exact absurd z hz
  · have z3 := z.2.2.1
    unfold s_rm at z3
    simp only [Bool.and_eq_true, decide_eq_true_eq] at z3
    exact z3.2.2
theorem px_rm {pp ss : TT} {tt : Int → List Op} {lo : Int} (hz : ¬ s_px pp ss tt lo = -1) : s_yw pp ss (pp 5 (s_px pp ss tt lo)) < pp 4 (pp 5 (s_px pp ss tt lo)) := by
  rcases pxt_rg (pp := pp) (ss := ss) (tt := tt) (lo := lo) (pp 1 0).toNat with z | z
  · exact absurd z hz
  · have z3 := z.2.2.1
    unfold s_rm at z3
    simp only [Bool.and_eq_true, decide_eq_true_eq] at z3
    exact z3.2.2
theorem YI.b2 {pp c : TT} {tt : Int → List Op} {lo : Int} (hI : PI pp) (b : YB0 pp c) : ∀ (n : Nat) {s : TT}, YI pp c s → YI pp c (s_b2 pp tt lo n s) := by
  intro n
  induction n with
  | zero => exact fun x => x
  | succ n ih =>
    intro s x
    by_cases z : s_nx pp s tt lo = -1
    · rw [show s_b2 pp tt lo (n + 1) s = s from if_pos z]
      exact x
    · obtain ⟨r0, r1, r7, rs⟩ := (nx_rg (ss := s) (tt := tt) (lo := lo) hI).resolve_left z
      rw [show s_b2 pp tt lo (n + 1) s = s_b2 pp tt lo n (s_buy pp s (s_nx pp s tt lo)) from if_neg z]
      exact ih (x.buy hI b r0 r1 r7 (nx_rm z) rs)
theorem YI.b3 {pp c : TT} {tt : Int → List Op} {lo : Int} (hI : PI pp) (b : YB0 pp c) : ∀ (n : Nat) {s : TT}, YI pp c s → YI pp c (s_b3 pp tt lo n s) := by
  intro n
  induction n with
  | zero => exact fun x => x
  | succ n ih =>
    intro s x
    by_cases z : s_px pp s tt lo = -1
    · rw [show s_b3 pp tt lo (n + 1) s = s from if_pos z]
      exact x
    · obtain ⟨r0, r1, r7, rc⟩ := (px_rg (ss := s) (tt := tt) (lo := lo) hI).resolve_left z
      rw [show s_b3 pp tt lo (n + 1) s = s_b3 pp tt lo n (s_pot s (s_px pp s tt lo)) from if_neg z]
      exact ih (x.pot hI b r0 r1 r7 (px_rm z) rc)
/-- the loops end for want of a project -/
theorem b2_end {pp : TT} {tt : Int → List Op} {lo : Int} (hI : PI pp) : ∀ (n : Nat) {s : TT}, SI pp s → pp 1 0 - s_bc pp s < (n : Int) → s_nx pp (s_b2 pp tt lo n s) tt lo = -1 := by
  intro n
  induction n with
  | zero =>
    intro s hS hn
    have := bc_bd (ss := s) hI
    exact absurd hn (by omega)
  | succ n ih =>
    intro s hS hn
    by_cases z : s_nx pp s tt lo = -1
    · rw [show s_b2 pp tt lo (n + 1) s = s from if_pos z]
      exact z
    · obtain ⟨r0, r1, r7, rs⟩ := (nx_rg (ss := s) (tt := tt) (lo := lo) hI).resolve_left z
      rw [show s_b2 pp tt lo (n + 1) s = s_b2 pp tt lo n (s_buy pp s (s_nx pp s tt lo)) from if_neg z]
      have bb := bc_buy hI hS r0 r1 r7 rs
      exact ih (buy_SI hI hS r0 r1 rs) (by omega)
theorem b3_end {pp : TT} {tt : Int → List Op} {lo : Int} (hI : PI pp) : ∀ (n : Nat) {s : TT}, SI pp s → pp 1 0 - s_bc pp s < (n : Int) → s_px pp (s_b3 pp tt lo n s) tt lo = -1 := by
  intro n
  induction n with
  | zero =>
    intro s hS hn
    have := bc_bd (ss := s) hI
    exact absurd hn (by omega)
  | succ n ih =>
    intro s hS hn
    by_cases z : s_px pp s tt lo = -1
    · rw [show s_b3 pp tt lo (n + 1) s = s from if_pos z]
      exact z
    · obtain ⟨r0, r1, r7, rc⟩ := (px_rg (ss := s) (tt := tt) (lo := lo) hI).resolve_left z
      rw [show s_b3 pp tt lo (n + 1) s = s_b3 pp tt lo n (s_pot s (s_px pp s tt lo)) from if_neg z]
      have bb := bc_pot hI hS r0 r1 r7 rc
      have po := hS.pot
      have cb := hS.cost r0 r1
      exact ih ((hS.u2 ⟨by omega, by omega⟩).bld) (by omega)
