/-! ===== the year as a whole ===== -/
theorem gr_6 {pp ss : TT} : ∀ (n : Nat) (p : Int), 0 ≤ p → s_gr pp ss n 6 p = if p < (n : Int) ∧ ss 7 p = -1 then s_g1 (ss 6 p) (pp 6 p) else ss 6 p
  | 0, p, h0 => by rw [if_neg (by omega)]; rfl
  | n + 1, p, h0 => by
    have ih := gr_6 (pp := pp) (ss := ss) n p h0
    rw [s_gr_succ, s_gr_ne (by decide : (7 : Nat) ≠ 6)]
    by_cases z : ss 7 (n : Int) = -1
    · rw [if_pos z]
      by_cases e : p = (n : Int)
      · subst e
        rw [su_eq, if_pos ⟨by omega, z⟩]
        have ih' : s_gr pp ss n 6 (n : Int) = ss 6 (n : Int) := by rw [ih, if_neg (by omega)]
        rw [ih']
      · rw [su_ne (by omega), ih]
        by_cases y : p < (n : Int) ∧ ss 7 p = -1
        · rw [if_pos y, if_pos ⟨by omega, y.2⟩]
        · rw [if_neg y, if_neg (fun w => y ⟨by omega, w.2⟩)]
    · rw [if_neg z, ih]
      by_cases y : p < (n : Int) ∧ ss 7 p = -1
      · rw [if_pos y, if_pos ⟨by omega, y.2⟩]
      · rw [if_neg y, if_neg (fun w => y ⟨by
          have : ¬ p = (n : Int) := fun e => z (by rw [← e]; exact w.2)
          omega, w.2⟩)]
theorem pay_4 {ss : TT} {x : Int} : ∀ (n : Nat) (v : Int), 0 ≤ v → s_pay ss x n 4 v = if v < (n : Int) then min 9999 (ss 4 v + x) else ss 4 v
  | 0, v, h0 => by rw [if_neg (by omega)]; rfl
  | n + 1, v, h0 => by
    have ih := pay_4 (ss := ss) (x := x) n
    show su (s_pay ss x n) 4 (n : Int) (min 9999 (s_pay ss x n 4 (n : Int) + x)) 4 v = _
    by_cases e : v = (n : Int)
    · subst e
      rw [su_eq, ih _ (by omega), if_neg (by omega), if_pos (by omega)]
    · rw [su_ne (by omega), ih v h0]
      by_cases y : v < (n : Int)
      · rw [if_pos y, if_pos (by omega)]
      · rw [if_neg y, if_neg (by omega)]
theorem col_4 {pp ss : TT} {v : Int} (h0 : 0 ≤ v) (h1 : v < pp 2 0) : s_col pp ss 4 v = min 9999 (ss 4 v + s_each pp ss) := by
  have : s_col pp ss 4 v = s_pay ss (s_each pp ss) (pp 2 0).toNat 4 v := su_ne (by omega)
  rw [this, pay_4 _ _ h0, if_pos (by omega)]
theorem col_2 {pp ss : TT} : s_col pp ss 2 0 = min 9999 (ss 2 0 + (ss 1 0 - s_each pp ss * pp 2 0)) := su_eq
theorem col_SI {pp ss : TT} (hI : PI pp) (hS : SI pp ss) : SI pp (s_col pp ss) := by
  have eb := each_bd hS
  have nv := hI.nv
  have po := hS.pot
  have bu := hS.bud
  have key : ∀ n : Nat, SI pp (s_pay ss (s_each pp ss) n) := by
    intro n
    induction n with
    | zero => exact hS
    | succ n ih =>
      by_cases z : (n : Int) < pp 2 0
      · have pb := ih.purse (i := (n : Int)) (by omega) z
        exact ih.u4 (by omega)
      · refine ⟨ih.1, ih.2.1, ih.2.2.1, fun v v0 v1 => ?_, ih.2.2.2.2⟩
        have e : s_pay ss (s_each pp ss) (n + 1) 4 v = s_pay ss (s_each pp ss) n 4 v := su_ne (by omega)
        rw [e]
        exact ih.purse v0 v1
  have e2 : s_pay ss (s_each pp ss) (pp 2 0).toNat 2 0 = ss 2 0 := s_pay_ne (by decide) _
  exact (key _).u2 (by omega)
theorem YB0.col {pp ss : TT} (hI : PI pp) (b : YB0 pp ss) : YB0 pp (s_col pp ss) := by
  have e : ∀ (k : Nat) (i : Int), k ≠ 4 → k ≠ 2 → s_col pp ss k i = ss k i := fun k i a1 a2 => s_col_ne a1 a2
  refine ⟨col_SI hI b.I, fun p p0 p1 z => ?_, fun p p0 p1 => ?_, fun v v0 v1 => ?_, ?_⟩
  · rw [e 8 p (by decide) (by decide)] at z
    rw [e 7 p (by decide) (by decide)]
    exact b.s p p0 p1 z
  · rw [e 7 p (by decide) (by decide), e 0 0 (by decide) (by decide)]
    exact b.h p p0 p1
  · rw [e 5 v (by decide) (by decide)]
    exact b.v v v0 v1
  · rw [e 3 0 (by decide) (by decide)]
    exact b.o
theorem b2_keep {pp : TT} {tt : Int → List Op} {lo p : Int} (hI : PI pp) : ∀ (n : Nat) {s : TT}, ¬ s 7 p = -1 → s_b2 pp tt lo n s 7 p = s 7 p := by
  intro n
  induction n with
  | zero => exact fun _ => rfl
  | succ n ih =>
    intro s hz
    by_cases z : s_nx pp s tt lo = -1
    · rw [show s_b2 pp tt lo (n + 1) s = s from if_pos z]
    · obtain ⟨r0, r1, r7, rs⟩ := (nx_rg (ss := s) (tt := tt) (lo := lo) hI).resolve_left z
      rw [show s_b2 pp tt lo (n + 1) s = s_b2 pp tt lo n (s_buy pp s (s_nx pp s tt lo)) from if_neg z]
      have ne : ¬ p = s_nx pp s tt lo := fun e => hz (by rw [e]; exact r7)
      have e : s_buy pp s (s_nx pp s tt lo) 7 p = s 7 p := s_buy_ne (Or.inr (Or.inr (Or.inr (Or.inr (Or.inr ⟨rfl, ne⟩)))))
      rw [ih (by rw [e]; exact hz), e]
theorem b3_keep {pp : TT} {tt : Int → List Op} {lo p : Int} (hI : PI pp) : ∀ (n : Nat) {s : TT}, ¬ s 7 p = -1 → s_b3 pp tt lo n s 7 p = s 7 p := by
  intro n
  induction n with
  | zero => exact fun _ => rfl
  | succ n ih =>
    intro s hz
    by_cases z : s_px pp s tt lo = -1
    · rw [show s_b3 pp tt lo (n + 1) s = s from if_pos z]
    · obtain ⟨r0, r1, r7, rc⟩ := (px_rg (ss := s) (tt := tt) (lo := lo) hI).resolve_left z
      rw [show s_b3 pp tt lo (n + 1) s = s_b3 pp tt lo n (s_pot s (s_px pp s tt lo)) from if_neg z]
      have ne : ¬ p = s_px pp s tt lo := fun e => hz (by rw [e]; exact r7)
      have e : s_pot s (s_px pp s tt lo) 7 p = s 7 p := (s_bld_ne (by omega) (by omega)).trans (su_ne (by omega))
      rw [ih (by rw [e]; exact hz), e]
theorem b3_ne {pp : TT} {tt : Int → List Op} {lo i : Int} {k : Nat} (hk : k = 0 ∨ k = 1 ∨ k = 4 ∨ k = 5 ∨ k = 6 ∨ k = 8 ∨ k = 9) : ∀ (n : Nat) {s : TT}, s_b3 pp tt lo n s k i = s k i := by
  intro n
  induction n with
  | zero => intro s; rfl
  | succ n ih =>
    intro s
    by_cases z : s_px pp s tt lo = -1
    · rw [show s_b3 pp tt lo (n + 1) s = s from if_pos z]
    · rw [show s_b3 pp tt lo (n + 1) s = s_b3 pp tt lo n (s_pot s (s_px pp s tt lo)) from if_neg z]
      have e : s_pot s (s_px pp s tt lo) k i = s k i := (s_bld_ne (by omega) (by omega)).trans (su_ne (by omega))
      rw [ih, e]
theorem nx_none {pp ss : TT} {tt : Int → List Op} (hI : PI pp) (z : s_nx pp ss tt (-1) = -1) {q : Int} (q0 : 0 ≤ q) (q1 : q < pp 1 0) : ¬ cnd pp ss tt q := by
  have b := (nxt_bst (pp := pp) (ss := ss) (tt := tt) (pp 1 0).toNat).1
  have e : (nxt pp ss tt (-1) (pp 1 0).toNat).1 = -1 := z
  rw [e] at b
  rcases b with ⟨-, b⟩ | ⟨b, -⟩
  · exact b q q0 (by omega)
  · exact absurd b (by decide)
theorem px_none {pp ss : TT} {tt : Int → List Op} {lo : Int} : ∀ n : Nat, pxt pp ss tt lo n = -1 → ∀ q, 0 ≤ q → q < (n : Int) → ¬ (s_rm pp ss lo q = true ∧ s_bn pp ss tt q = false ∧ ss 6 q ≤ ss 2 0)
  | 0, _, q, q0, q1 => absurd q1 (by omega)
  | n + 1, z, q, q0, q1 => by
    rw [pxt_succ] at z
    by_cases y : s_pe pp ss tt lo (pxt pp ss tt lo n) (n : Int) = true
    · rw [if_pos y] at z
      omega
    · rw [if_neg y] at z
      by_cases e : q = (n : Int)
      · subst e
        intro ⟨a, b, c⟩
        apply y
        rw [z]
        unfold s_pe
        simp [a, b, c]
      · exact px_none n z q q0 (by omega)
theorem bn_none {pp ss : TT} {tt : Int → List Op} {q : Int} (z : pp 3 0 = 0) : s_bn pp ss tt q = false := by
  unfold s_bn
  rw [z]
  rfl
theorem cf_tg {pp ss : TT} {p : Int} (hS : SI pp ss) : s_cf pp ss p = s_tg pp ss p 9999 := by
  unfold s_cf s_tg
  refine sm_congr (fun i hi => ?_)
  have := hS.purse (i := (i : Int)) (by omega) (by omega)
  unfold f_cf f_tg
  by_cases z : ss 9 (12 * (i : Int) + p) = 0
  · rw [if_pos z, if_pos z]
  · rw [if_neg z, if_neg z]; omega
def f_in (pp ss y : TT) (w p : Int) : Int := if pp 5 p = w then (if ss 7 p = -1 ∧ ¬ y 7 p = -1 then 1 else 0) else 0
def f_mr (ss y : TT) (p : Int) : Int := if ss 7 p = -1 ∧ ¬ y 7 p = -1 then 1 else 0
def YF (pp ss y : TT) (tt : Int → List Op) : Prop := (y 0 0 = ss 0 0 + 1) ∧ (y 1 0 = ss 1 0) ∧ (SI pp y) ∧ (∀ p, 0 ≤ p → p < pp 1 0 → y 7 p < y 0 0) ∧ (SB pp y) ∧ (∀ p, 0 ≤ p → p < pp 1 0 → (¬ ss 7 p = -1 → y 7 p = ss 7 p ∧ y 6 p = ss 6 p ∧ y 8 p = ss 8 p) ∧ (ss 7 p = -1 → (y 7 p = -1 ∧ y 6 p = s_g1 (ss 6 p) (pp 6 p)) ∨ (y 7 p = ss 0 0 ∧ y 6 p = ss 6 p ∧ (y 8 p = 1 → 1 ≤ s_nf pp ss p)))) ∧ (∀ i, y 9 i = ss 9 i) ∧ (y 3 0 = ss 3 0 + sm (f_nw ss y) (pp 1 0).toNat) ∧ (y 2 0 = min 9999 (ss 2 0 + (ss 1 0 - s_each pp ss * pp 2 0)) - sm (f_np ss y) (pp 1 0).toNat) ∧ (∀ v, 0 ≤ v → v < pp 2 0 → y 4 v + y 5 v = min 9999 (ss 4 v + s_each pp ss) + ss 5 v ∧ ss 5 v ≤ y 5 v) ∧ (sm (fun v => y 5 v) (pp 2 0).toNat = sm (fun v => ss 5 v) (pp 2 0).toNat + sm (f_nq ss y) (pp 1 0).toNat) ∧ (∀ v, 0 ≤ v → v < pp 2 0 → ss 5 v < y 5 v → ∃ p, (0 ≤ p ∧ p < pp 1 0) ∧ ss 9 (12 * v + p) = 1 ∧ y 7 p = ss 0 0 ∧ y 8 p = 1) ∧ (∀ w, 0 ≤ w → w < pp 0 0 → sm (f_in pp ss y w) (pp 1 0).toNat ≤ pp 4 w) ∧ (s_bc pp y = s_bc pp ss + sm (f_mr ss y) (pp 1 0).toNat) ∧ (¬ s_nx pp (s_col pp ss) tt (-1) = -1 → y 7 (s_nx pp (s_col pp ss) tt (-1)) = ss 0 0) ∧ (s_nx pp (s_col pp ss) tt (-1) = -1 → s_bo pp y = s_bo pp ss) ∧ (pp 3 0 = 0 → ∀ p, 0 ≤ p → p < pp 1 0 → y 7 p = -1 → sm (f_in pp ss y (pp 5 p)) (pp 1 0).toNat < pp 4 (pp 5 p) → s_cf pp y p < ss 6 p ∧ y 2 0 < ss 6 p)
theorem YF.e0 {pp ss y : TT} {tt : Int → List Op} (x : YF pp ss y tt) : y 0 0 = ss 0 0 + 1 := x.1
theorem YF.e1 {pp ss y : TT} {tt : Int → List Op} (x : YF pp ss y tt) : y 1 0 = ss 1 0 := x.2.1
theorem YF.I {pp ss y : TT} {tt : Int → List Op} (x : YF pp ss y tt) : SI pp y := x.2.2.1
theorem YF.hb {pp ss y : TT} {tt : Int → List Op} (x : YF pp ss y tt) : ∀ p, 0 ≤ p → p < pp 1 0 → y 7 p < y 0 0 := x.2.2.2.1
theorem YF.sb {pp ss y : TT} {tt : Int → List Op} (x : YF pp ss y tt) : SB pp y := x.2.2.2.2.1
theorem YF.k {pp ss y : TT} {tt : Int → List Op} (x : YF pp ss y tt) : ∀ p, 0 ≤ p → p < pp 1 0 → (¬ ss 7 p = -1 → y 7 p = ss 7 p ∧ y 6 p = ss 6 p ∧ y 8 p = ss 8 p) ∧ (ss 7 p = -1 → (y 7 p = -1 ∧ y 6 p = s_g1 (ss 6 p) (pp 6 p)) ∨ (y 7 p = ss 0 0 ∧ y 6 p = ss 6 p ∧ (y 8 p = 1 → 1 ≤ s_nf pp ss p))) := x.2.2.2.2.2.1
theorem YF.f {pp ss y : TT} {tt : Int → List Op} (x : YF pp ss y tt) : ∀ i, y 9 i = ss 9 i := x.2.2.2.2.2.2.1
theorem YF.o {pp ss y : TT} {tt : Int → List Op} (x : YF pp ss y tt) : y 3 0 = ss 3 0 + sm (f_nw ss y) (pp 1 0).toNat := x.2.2.2.2.2.2.2.1
theorem YF.t {pp ss y : TT} {tt : Int → List Op} (x : YF pp ss y tt) : y 2 0 = min 9999 (ss 2 0 + (ss 1 0 - s_each pp ss * pp 2 0)) - sm (f_np ss y) (pp 1 0).toNat := x.2.2.2.2.2.2.2.2.1
theorem YF.m {pp ss y : TT} {tt : Int → List Op} (x : YF pp ss y tt) : ∀ v, 0 ≤ v → v < pp 2 0 → y 4 v + y 5 v = min 9999 (ss 4 v + s_each pp ss) + ss 5 v ∧ ss 5 v ≤ y 5 v := x.2.2.2.2.2.2.2.2.2.1
theorem YF.z {pp ss y : TT} {tt : Int → List Op} (x : YF pp ss y tt) : sm (fun v => y 5 v) (pp 2 0).toNat = sm (fun v => ss 5 v) (pp 2 0).toNat + sm (f_nq ss y) (pp 1 0).toNat := x.2.2.2.2.2.2.2.2.2.2.1
theorem YF.l {pp ss y : TT} {tt : Int → List Op} (x : YF pp ss y tt) : ∀ v, 0 ≤ v → v < pp 2 0 → ss 5 v < y 5 v → ∃ p, (0 ≤ p ∧ p < pp 1 0) ∧ ss 9 (12 * v + p) = 1 ∧ y 7 p = ss 0 0 ∧ y 8 p = 1 := x.2.2.2.2.2.2.2.2.2.2.2.1
theorem YF.w {pp ss y : TT} {tt : Int → List Op} (x : YF pp ss y tt) : ∀ w, 0 ≤ w → w < pp 0 0 → sm (f_in pp ss y w) (pp 1 0).toNat ≤ pp 4 w := x.2.2.2.2.2.2.2.2.2.2.2.2.1
theorem YF.n {pp ss y : TT} {tt : Int → List Op} (x : YF pp ss y tt) : s_bc pp y = s_bc pp ss + sm (f_mr ss y) (pp 1 0).toNat := x.2.2.2.2.2.2.2.2.2.2.2.2.2.1
theorem YF.x {pp ss y : TT} {tt : Int → List Op} (x : YF pp ss y tt) : ¬ s_nx pp (s_col pp ss) tt (-1) = -1 → y 7 (s_nx pp (s_col pp ss) tt (-1)) = ss 0 0 := x.2.2.2.2.2.2.2.2.2.2.2.2.2.2.1
theorem YF.x2 {pp ss y : TT} {tt : Int → List Op} (x : YF pp ss y tt) : s_nx pp (s_col pp ss) tt (-1) = -1 → s_bo pp y = s_bo pp ss := x.2.2.2.2.2.2.2.2.2.2.2.2.2.2.2.1
theorem YF.d {pp ss y : TT} {tt : Int → List Op} (x : YF pp ss y tt) : pp 3 0 = 0 → ∀ p, 0 ≤ p → p < pp 1 0 → y 7 p = -1 → sm (f_in pp ss y (pp 5 p)) (pp 1 0).toNat < pp 4 (pp 5 p) → s_cf pp y p < ss 6 p ∧ y 2 0 < ss 6 p := x.2.2.2.2.2.2.2.2.2.2.2.2.2.2.2.2
theorem gr_SI {pp ss : TT} (hI : PI pp) (hS : SI pp ss) : ∀ n : Nat, (n : Int) ≤ pp 1 0 → SI pp (s_gr pp ss n) := by
  intro n
  induction n with
  | zero => exact fun _ => hS
  | succ n ih =>
    intro hn
    have ih := ih (by omega)
    rw [s_gr_succ]
    have cb := ih.cost (i := (n : Int)) (by omega) (by omega)
    have gb := hI.grows (i := (n : Int)) (by omega) (by omega)
    generalize s_gr pp ss n = s at ih cb ⊢
    split
    · exact ih.u6 (g1_bd cb.1 cb.2 gb.1 gb.2)
    · exact ih
theorem YF.mk' {pp ss : TT} {tt : Int → List Op} (hI : PI pp) (hN : pp 1 0 ≤ 7) (b : YB0 pp ss) (hy : ss 0 0 + 1 < 2000000000) : YF pp ss (s_year pp tt (-1) ss) tt := by
  have bc := b.col hI
  have np := hI.np
  have y0 := b.I.yr
  have ce : ∀ (k : Nat) (i : Int), k ≠ 4 → k ≠ 2 → s_col pp ss k i = ss k i := fun k i a1 a2 => s_col_ne a1 a2
  have c7 : ∀ p, s_col pp ss 7 p = ss 7 p := fun p => ce 7 p (by decide) (by decide)
  have c6 : ∀ p, s_col pp ss 6 p = ss 6 p := fun p => ce 6 p (by decide) (by decide)
  have c8 : ∀ p, s_col pp ss 8 p = ss 8 p := fun p => ce 8 p (by decide) (by decide)
  have c9 : ∀ p, s_col pp ss 9 p = ss 9 p := fun p => ce 9 p (by decide) (by decide)
  have c5 : ∀ p, s_col pp ss 5 p = ss 5 p := fun p => ce 5 p (by decide) (by decide)
  have c0 : s_col pp ss 0 0 = ss 0 0 := ce 0 0 (by decide) (by decide)
  have c1 : s_col pp ss 1 0 = ss 1 0 := ce 1 0 (by decide) (by decide)
  have c3 : s_col pp ss 3 0 = ss 3 0 := ce 3 0 (by decide) (by decide)
  have X2 : YI pp (s_col pp ss) (s_b2 pp tt (-1) 12 (s_col pp ss)) := YI.b2 hI bc 12 (YI.rf hI bc)
  have X3 : YI pp (s_col pp ss) (s_b3 pp tt (-1) 12 (s_b2 pp tt (-1) 12 (s_col pp ss))) := YI.b3 hI bc 12 X2
  have bcb := bc_bd (ss := s_col pp ss) hI
  have bcb2 := bc_bd (ss := s_b2 pp tt (-1) 12 (s_col pp ss)) hI
  have N2 : s_nx pp (s_b2 pp tt (-1) 12 (s_col pp ss)) tt (-1) = -1 := b2_end hI 12 bc.I (by omega)
  have N3 : s_px pp (s_b3 pp tt (-1) 12 (s_b2 pp tt (-1) 12 (s_col pp ss))) tt (-1) = -1 := b3_end hI 12 X2.I (by omega)
  have k37 : ∀ p, ¬ s_b2 pp tt (-1) 12 (s_col pp ss) 7 p = -1 → s_b3 pp tt (-1) 12 (s_b2 pp tt (-1) 12 (s_col pp ss)) 7 p = s_b2 pp tt (-1) 12 (s_col pp ss) 7 p := fun p hp => b3_keep hI 12 hp
  have k38 : ∀ (k : Nat) (i : Int), (k = 0 ∨ k = 1 ∨ k = 4 ∨ k = 5 ∨ k = 6 ∨ k = 8 ∨ k = 9) → s_b3 pp tt (-1) 12 (s_b2 pp tt (-1) 12 (s_col pp ss)) k i = s_b2 pp tt (-1) 12 (s_col pp ss) k i := fun k i hk => b3_ne hk 12
  have NX : ¬ s_nx pp (s_col pp ss) tt (-1) = -1 → s_b2 pp tt (-1) 12 (s_col pp ss) 7 (s_nx pp (s_col pp ss) tt (-1)) = ss 0 0 := fun z => by
    rw [show s_b2 pp tt (-1) 12 (s_col pp ss) = s_b2 pp tt (-1) 11 (s_buy pp (s_col pp ss) (s_nx pp (s_col pp ss) tt (-1))) from if_neg z]
    have e7 : s_buy pp (s_col pp ss) (s_nx pp (s_col pp ss) tt (-1)) 7 (s_nx pp (s_col pp ss) tt (-1)) = ss 0 0 := s_buy_7.trans c0
    rw [b2_keep hI 11 (by rw [e7]; omega), e7]
  have N8 : s_nx pp (s_col pp ss) tt (-1) = -1 → ∀ p, s_b2 pp tt (-1) 12 (s_col pp ss) 8 p = ss 8 p := fun z p => by
    rw [show s_b2 pp tt (-1) 12 (s_col pp ss) = s_col pp ss from if_pos z, c8]
  have ye : ∀ (k : Nat) (i : Int), k ≠ 6 → k ≠ 0 → s_year pp tt (-1) ss k i = s_b3 pp tt (-1) 12 (s_b2 pp tt (-1) 12 (s_col pp ss)) k i := fun k i a1 a2 => (su_ne (fun z => a2 z.1)).trans (s_gr_ne a1 _)
  have yy : s_year pp tt (-1) ss 0 0 = ss 0 0 + 1 := su_eq
  have y6 : ∀ p, 0 ≤ p → p < pp 1 0 → s_year pp tt (-1) ss 6 p = if s_b3 pp tt (-1) 12 (s_b2 pp tt (-1) 12 (s_col pp ss)) 7 p = -1 then s_g1 (ss 6 p) (pp 6 p) else ss 6 p := fun p p0 p1 => by
    have e1 : s_year pp tt (-1) ss 6 p = s_gr pp (s_b3 pp tt (-1) 12 (s_b2 pp tt (-1) 12 (s_col pp ss))) (pp 1 0).toNat 6 p := su_ne (by omega)
    rw [e1, gr_6 _ _ p0, X3.k, c6]
    by_cases z : s_b3 pp tt (-1) 12 (s_b2 pp tt (-1) 12 (s_col pp ss)) 7 p = -1
    · rw [if_pos z, if_pos ⟨by omega, z⟩]
    · rw [if_neg z, if_neg (fun w => z w.2)]
  have P1 : SI pp (s_p1 pp tt (-1) ss) := gr_SI hI X3.I _ (by omega)
  have YI1 := year_SI hI P1 hy
  have YB1 := year_bt hI P1
  generalize s_year pp tt (-1) ss = y at ye yy y6 YI1 YB1 ⊢
  clear P1 bcb bcb2 N8
  have N8 : s_nx pp (s_col pp ss) tt (-1) = -1 → ∀ p, s_b2 pp tt (-1) 12 (s_col pp ss) 8 p = ss 8 p := fun z p => by
    rw [show s_b2 pp tt (-1) 12 (s_col pp ss) = s_col pp ss from if_pos z, c8]
  generalize s_b3 pp tt (-1) 12 (s_b2 pp tt (-1) 12 (s_col pp ss)) = e at X3 N3 k37 k38 ye y6
  generalize s_b2 pp tt (-1) 12 (s_col pp ss) = m at X2 N2 k37 k38 NX N8
  have q7 : ∀ p, 0 ≤ p → p < pp 1 0 → (¬ ss 7 p = -1 → e 7 p = ss 7 p ∧ e 8 p = ss 8 p) ∧ (ss 7 p = -1 → (e 7 p = -1 ∧ e 8 p = ss 8 p) ∨ (e 7 p = ss 0 0 ∧ (e 8 p = 1 → 1 ≤ s_nf pp ss p))) := fun p p0 p1 => by
    have := X3.q p p0 p1
    rw [c7, c8, c0, nf_cg c9] at this
    exact this
  have e0 : e 0 0 = ss 0 0 := X3.y.trans c0
  have ein : ∀ w, sm (f_in pp ss y w) (pp 1 0).toNat = s_yw pp e w := fun w => by
    unfold s_yw
    refine sm_congr (fun i hi => ?_)
    obtain ⟨a1, a2⟩ := q7 (i : Int) (by omega) (by omega)
    have hbi := b.h (i : Int) (by omega) (by omega)
    unfold f_in f_yw
    rw [ye 7 _ (by decide) (by decide), e0]
    by_cases z : pp 5 (i : Int) = w
    · rw [if_pos z, if_pos z]
      by_cases u : ss 7 (i : Int) = -1
      · rcases a2 u with ⟨a3, -⟩ | ⟨a3, -⟩
        · rw [if_neg (fun x => x.2 a3), if_neg (by omega)]
        · rw [if_pos ⟨u, by omega⟩, if_pos a3]
      · have := (a1 u).1
        rw [if_neg (fun x => u x.1), if_neg (by omega)]
    · rw [if_neg z, if_neg z]
  refine ⟨yy, (ye 1 0 (by decide) (by decide)).trans (X3.b.trans c1), YI1, YB1, fun p p0 p1 z => ?_, fun p p0 p1 => ⟨fun z => ?_, fun z => ?_⟩, fun i => (ye 9 i (by decide) (by decide)).trans ((X3.f i).trans (c9 i)), ?_, ?_, fun v v0 v1 => ?_, ?_, fun v v0 v1 hl => ?_, fun w w0 w1 => ?_, ?_, fun z => ?_, fun z => ?_, fun z3 p p0 p1 z7 hr => ?_⟩
  · rw [ye 8 p (by decide) (by decide)] at z
    rw [ye 7 p (by decide) (by decide)]
    obtain ⟨a1, a2⟩ := q7 p p0 p1
    by_cases u : ss 7 p = -1
    · rcases a2 u with ⟨-, a3⟩ | ⟨a3, -⟩
      · exact absurd u (b.s p p0 p1 (by omega))
      · omega
    · have := (a1 u).1
      omega
  · obtain ⟨a1, a2⟩ := (q7 p p0 p1).1 z
    rw [ye 7 p (by decide) (by decide), ye 8 p (by decide) (by decide), y6 p p0 p1, if_neg (by omega)]
    exact ⟨a1, rfl, a2⟩
  · rw [ye 7 p (by decide) (by decide), ye 8 p (by decide) (by decide), y6 p p0 p1]
    rcases (q7 p p0 p1).2 z with ⟨a1, a2⟩ | ⟨a1, a2⟩
    · exact Or.inl ⟨a1, if_pos a1⟩
    · exact Or.inr ⟨a1, if_neg (by omega), a2⟩
  · rw [ye 3 0 (by decide) (by decide), X3.o, c3]
    congr 1
    exact sm_congr (fun i _ => by unfold f_nw; rw [c7, c6, ye 7 _ (by decide) (by decide)])
  · rw [ye 2 0 (by decide) (by decide), X3.t, col_2]
    congr 1
    exact sm_congr (fun i _ => by unfold f_np; rw [c7, c6, ye 7 _ (by decide) (by decide), ye 8 _ (by decide) (by decide)])
  · have := X3.m v v0 v1
    rw [col_4 v0 v1, c5] at this
    rw [ye 4 v (by decide) (by decide), ye 5 v (by decide) (by decide)]
    exact this
  · have a1 : sm (fun v => y 5 v) (pp 2 0).toNat = sm (fun v => e 5 v) (pp 2 0).toNat := sm_congr (fun i _ => ye 5 _ (by decide) (by decide))
    have a2 : sm (fun v => s_col pp ss 5 v) (pp 2 0).toNat = sm (fun v => ss 5 v) (pp 2 0).toNat := sm_congr (fun i _ => c5 _)
    rw [a1, X3.z, a2]
    congr 1
    exact sm_congr (fun i _ => by unfold f_nq; rw [c7, c6, ye 7 _ (by decide) (by decide), ye 8 _ (by decide) (by decide)])
  · rw [ye 5 v (by decide) (by decide)] at hl
    obtain ⟨p, r1, r2, r3, r4, r5⟩ := X3.l v v0 v1 (by rw [c5]; exact hl)
    rw [c9] at r2
    rw [c7] at r3
    refine ⟨p, r1, r2, ?_, (ye 8 p (by decide) (by decide)).trans r5⟩
    rw [ye 7 p (by decide) (by decide)]
    rcases (q7 p r1.1 r1.2).2 r3 with ⟨a3, -⟩ | ⟨a3, -⟩
    · exact absurd a3 r4
    · exact a3
  · rw [ein w]
    exact X3.w w w0 w1
  · unfold s_bc
    have := sm_lin (f := f_bc y) (g := f_bc ss) (c := f_mr ss y) (y := 1) (n := (pp 1 0).toNat) (fun i hi => ?_)
    · omega
    · obtain ⟨a1, a2⟩ := q7 (i : Int) (by omega) (by omega)
      unfold f_bc f_mr
      rw [ye 7 _ (by decide) (by decide)]
      by_cases u : ss 7 (i : Int) = -1
      · rcases a2 u with ⟨a3, -⟩ | ⟨a3, -⟩
        · rw [if_pos a3, if_pos u, if_neg (fun x => x.2 a3)]; omega
        · rw [if_neg (by omega), if_pos u, if_pos ⟨u, by omega⟩]; omega
      · have := (a1 u).1
        rw [if_neg (by omega), if_neg u, if_neg (fun x => u x.1)]; omega
  · have h1 := NX z
    rw [ye 7 _ (by decide) (by decide), k37 _ (by rw [h1]; omega), h1]
  · unfold s_bo
    refine sm_congr (fun i _ => ?_)
    show y 8 (i : Int) = ss 8 (i : Int)
    rw [ye 8 _ (by decide) (by decide), k38 8 _ (by omega), N8 z]
  · rw [ye 7 p (by decide) (by decide)] at z7
    rw [ein] at hr
    have m7 : m 7 p = -1 := by
      by_cases u : m 7 p = -1
      · exact u
      · have := k37 p u
        omega
    have m0 : m 0 0 = ss 0 0 := X2.y.trans c0
    have pw := hI.ward p0 p1
    have mono : s_yw pp m (pp 5 p) ≤ s_yw pp e (pp 5 p) := by
      unfold s_yw
      refine sm_mono (fun i hi => ?_)
      unfold f_yw
      rw [m0, e0]
      by_cases u : pp 5 (i : Int) = pp 5 p
      · rw [if_pos u, if_pos u]
        by_cases v : m 7 (i : Int) = ss 0 0
        · have := k37 (i : Int) (by omega)
          rw [if_pos v, if_pos (by omega)]
          exact Int.le_refl _
        · rw [if_neg v]
          split <;> omega
      · rw [if_neg u, if_neg u]
        exact Int.le_refl _
    have c1' := nx_none hI N2 p0 p1
    have c2' := px_none (pp 1 0).toNat N3 p p0 (by omega)
    have rm1 : s_rm pp m (-1) p = true := by
      unfold s_rm
      rw [decide_eq_true m7, decide_eq_true (show p ≠ -1 by omega), decide_eq_true (show s_yw pp m (pp 5 p) < pp 4 (pp 5 p) by omega)]
      rfl
    have rm2 : s_rm pp e (-1) p = true := by
      unfold s_rm
      rw [decide_eq_true z7, decide_eq_true (show p ≠ -1 by omega), decide_eq_true hr]
      rfl
    have k1 : s_sh pp m p = -1 := by
      by_cases u : s_sh pp m p = -1
      · exact u
      · exact absurd ⟨rm1, bn_none z3, u⟩ c1'
    have mk := (X2.k p).trans (c6 p)
    have ek := (X3.k p).trans (c6 p)
    have cb := b.I.cost p0 p1
    refine ⟨?_, ?_⟩
    · have e1 : s_cf pp y p = s_cf pp m p := by
        unfold s_cf
        refine sm_congr (fun i _ => ?_)
        unfold f_cf
        have f9 : y 9 (12 * (i : Int) + p) = m 9 (12 * (i : Int) + p) := (ye 9 _ (by decide) (by decide)).trans (k38 9 _ (by omega))
        have f4 : y 4 (i : Int) = m 4 (i : Int) := (ye 4 _ (by decide) (by decide)).trans (k38 4 _ (by omega))
        rw [f9, f4]
      rw [e1, cf_tg X2.I, ← mk]
      by_cases u : s_tg pp m p 9999 < m 6 p
      · exact u
      · obtain ⟨t, et, t1, -⟩ := s_sh_spec u (by omega)
        omega
    · rw [ye 2 0 (by decide) (by decide), ← ek]
      by_cases u : e 2 0 < e 6 p
      · exact u
      · exact absurd ⟨rm2, bn_none z3, by omega⟩ c2'
