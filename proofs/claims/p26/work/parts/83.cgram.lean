/-! ===== the class's grammar: its roles at 28, its plan at dq ===== -/
def GS (h : AH) (dq : Int) (kd : Nat → Int) (N : Nat) : Prop := (am_t h 27 = 2) ∧ (am_m h 27 0 = 28) ∧ (am_m h 27 1 = 29) ∧ (am_m h 27 3 = 22) ∧ (am_m h 27 4 = dq) ∧ (am_t h 28 = 20) ∧ (am_l h 28 = 401) ∧ (am_t h 29 = 20) ∧ (am_l h 29 = 401) ∧ (am_t h 22 = 5) ∧ (am_m h 22 0 = 23) ∧ (am_t h 23 = 20) ∧ (am_l h 23 = 401) ∧ (∀ j : Nat, j ≤ N → am_m h 23 (j : Int) = kd j) ∧ (N ≤ 400) ∧ (kd N = 260 ∨ kd N = 261) ∧ (∀ j, j < N → kd j ≠ 260 ∧ kd j ≠ 261) ∧ (P4 h dq) ∧ (dq = 2 ∨ dq = 12) ∧ (53 ≤ am_n h)
theorem GS.t {h : AH} {dq : Int} {kd : Nat → Int} {N : Nat} (x : GS h dq kd N) : am_t h 27 = 2 := x.1
theorem GS.f0 {h : AH} {dq : Int} {kd : Nat → Int} {N : Nat} (x : GS h dq kd N) : am_m h 27 0 = 28 := x.2.1
theorem GS.f1 {h : AH} {dq : Int} {kd : Nat → Int} {N : Nat} (x : GS h dq kd N) : am_m h 27 1 = 29 := x.2.2.1
theorem GS.f3 {h : AH} {dq : Int} {kd : Nat → Int} {N : Nat} (x : GS h dq kd N) : am_m h 27 3 = 22 := x.2.2.2.1
theorem GS.f4 {h : AH} {dq : Int} {kd : Nat → Int} {N : Nat} (x : GS h dq kd N) : am_m h 27 4 = dq := x.2.2.2.2.1
theorem GS.t0 {h : AH} {dq : Int} {kd : Nat → Int} {N : Nat} (x : GS h dq kd N) : am_t h 28 = 20 := x.2.2.2.2.2.1
theorem GS.l0 {h : AH} {dq : Int} {kd : Nat → Int} {N : Nat} (x : GS h dq kd N) : am_l h 28 = 401 := x.2.2.2.2.2.2.1
theorem GS.t1 {h : AH} {dq : Int} {kd : Nat → Int} {N : Nat} (x : GS h dq kd N) : am_t h 29 = 20 := x.2.2.2.2.2.2.2.1
theorem GS.l1 {h : AH} {dq : Int} {kd : Nat → Int} {N : Nat} (x : GS h dq kd N) : am_l h 29 = 401 := x.2.2.2.2.2.2.2.2.1
theorem GS.tt {h : AH} {dq : Int} {kd : Nat → Int} {N : Nat} (x : GS h dq kd N) : am_t h 22 = 5 := x.2.2.2.2.2.2.2.2.2.1
theorem GS.g0 {h : AH} {dq : Int} {kd : Nat → Int} {N : Nat} (x : GS h dq kd N) : am_m h 22 0 = 23 := x.2.2.2.2.2.2.2.2.2.2.1
theorem GS.tk {h : AH} {dq : Int} {kd : Nat → Int} {N : Nat} (x : GS h dq kd N) : am_t h 23 = 20 := x.2.2.2.2.2.2.2.2.2.2.2.1
theorem GS.lk {h : AH} {dq : Int} {kd : Nat → Int} {N : Nat} (x : GS h dq kd N) : am_l h 23 = 401 := x.2.2.2.2.2.2.2.2.2.2.2.2.1
theorem GS.kd {h : AH} {dq : Int} {kd : Nat → Int} {N : Nat} (x : GS h dq kd N) : ∀ j : Nat, j ≤ N → am_m h 23 (j : Int) = kd j := x.2.2.2.2.2.2.2.2.2.2.2.2.2.1
theorem GS.N4 {h : AH} {dq : Int} {kd : Nat → Int} {N : Nat} (x : GS h dq kd N) : N ≤ 400 := x.2.2.2.2.2.2.2.2.2.2.2.2.2.2.1
theorem GS.en {h : AH} {dq : Int} {kd : Nat → Int} {N : Nat} (x : GS h dq kd N) : kd N = 260 ∨ kd N = 261 := x.2.2.2.2.2.2.2.2.2.2.2.2.2.2.2.1
theorem GS.ne {h : AH} {dq : Int} {kd : Nat → Int} {N : Nat} (x : GS h dq kd N) : ∀ j, j < N → kd j ≠ 260 ∧ kd j ≠ 261 := x.2.2.2.2.2.2.2.2.2.2.2.2.2.2.2.2.1
theorem GS.p {h : AH} {dq : Int} {kd : Nat → Int} {N : Nat} (x : GS h dq kd N) : P4 h dq := x.2.2.2.2.2.2.2.2.2.2.2.2.2.2.2.2.2.1
theorem GS.qd {h : AH} {dq : Int} {kd : Nat → Int} {N : Nat} (x : GS h dq kd N) : dq = 2 ∨ dq = 12 := x.2.2.2.2.2.2.2.2.2.2.2.2.2.2.2.2.2.2.1
theorem GS.n {h : AH} {dq : Int} {kd : Nat → Int} {N : Nat} (x : GS h dq kd N) : 53 ≤ am_n h := x.2.2.2.2.2.2.2.2.2.2.2.2.2.2.2.2.2.2.2
def cs (o : Op) : List (Int × Int) := if o.1 = 11 then [(1, o.2.1), (1, o.2.2), (11, 0)] else [(o.1, o.2.1)]
def css : List Op → List (Int × Int)
  | [] => []
  | o :: r => cs o ++ css r
theorem css_app : ∀ {L M : List Op}, css (L ++ M) = css L ++ css M
  | [], _ => rfl
  | o :: r, M => by
    show cs o ++ css (r ++ M) = (cs o ++ css r) ++ css M
    rw [css_app, List.append_assoc]
def FG (h0 h : AH) (dq : Int) : Prop := Fr 0 53 h0 h ∧ ∀ b j, ¬ (b = 27 ∧ j = 2) → ¬ b = 28 → ¬ (b = dq ∧ j = 5) → ¬ b = dq + 8 → ¬ b = dq + 9 → b < am_n h0 → am_m h b j = am_m h0 b j
theorem FG.rf {h : AH} {dq : Int} : FG h h dq := ⟨Fr.rf, fun _ _ _ _ _ _ _ _ => rfl⟩
theorem FG.w {h0 h : AH} {dq b i v : Int} (x : FG h0 h dq) (hq : dq = 2 ∨ dq = 12) (hb : (b = 27 ∧ i = 2) ∨ b = 28 ∨ (b = dq ∧ i = 5) ∨ b = dq + 8 ∨ b = dq + 9) : FG h0 (am_w h b i v) dq := by
  refine ⟨x.1.w (by omega) (by omega), fun c j z1 z2 z4 z5 z6 z7 => ?_⟩
  rw [am_m_w, if_neg (by omega)]
  exact x.2 c j z1 z2 z4 z5 z6 z7
def XG (h0 : AH) (dq : Int) (kd : Nat → Int) (N : Nat) (h : AH) (i : Nat) (S : List (Int × Int)) (R : List Int) (w : Nat) : Prop := GS h0 dq kd N ∧ FG h0 h dq ∧ am_m h 27 2 = (i : Int) ∧ am_m h dq 5 = (S.length : Int) ∧ RW (fun j => (am_m h (dq + 8) j, am_m h (dq + 9) j)) 0 S ∧ RW (fun j => am_m h 28 j) 0 R ∧ R.length = i ∧ S.length + w ≤ i ∧ i ≤ N
/-- what an answer asks of the continuation -/
def PG (h0 : AH) (dq : Int) (kd : Nat → Int) (N : Nat) (S : List (Int × Int)) (R : List Int) (w : Nat) (K : AK) : PR → Prop
  | .inl j => j ≤ N → ∀ h2, FG h0 h2 dq → am_m h2 27 2 = (j : Int) → K 0 0 h2
  | .inr (j, s, t) => ∀ h2, XG h0 dq kd N h2 j (S ++ css s) (R ++ t) w → K 0 1 h2
section
variable {d D : Nat} {h0 h : AH} {dq : Int} {kd : Nat → Int} {N i : Nat} {S : List (Int × Int)} {R : List Int} {w : Nat} {K : AK}
theorem XG.g (x : XG h0 dq kd N h i S R w) : GS h0 dq kd N := x.1
theorem XG.f (x : XG h0 dq kd N h i S R w) : FG h0 h dq := x.2.1
theorem XG.po (x : XG h0 dq kd N h i S R w) : am_m h 27 2 = (i : Int) := x.2.2.1
theorem XG.cn (x : XG h0 dq kd N h i S R w) : am_m h dq 5 = (S.length : Int) := x.2.2.2.1
theorem XG.st (x : XG h0 dq kd N h i S R w) : RW (fun j => (am_m h (dq + 8) j, am_m h (dq + 9) j)) 0 S := x.2.2.2.2.1
theorem XG.ro (x : XG h0 dq kd N h i S R w) : RW (fun j => am_m h 28 j) 0 R := x.2.2.2.2.2.1
theorem XG.rl (x : XG h0 dq kd N h i S R w) : R.length = i := x.2.2.2.2.2.2.1
theorem XG.bd (x : XG h0 dq kd N h i S R w) : S.length + w ≤ i := x.2.2.2.2.2.2.2.1
theorem XG.iN (x : XG h0 dq kd N h i S R w) : i ≤ N := x.2.2.2.2.2.2.2.2
theorem XG.tg (x : XG h0 dq kd N h i S R w) {b : Int} (hb : b < 53) : am_t h b = am_t h0 b := (x.f.1.2.2.2.1 b (by have := x.g.n; omega)).1
theorem XG.lg (x : XG h0 dq kd N h i S R w) {b : Int} (hb : b < 53) : am_l h b = am_l h0 b := (x.f.1.2.2.2.1 b (by have := x.g.n; omega)).2
theorem XG.mg (x : XG h0 dq kd N h i S R w) {b j : Int} (hb : b < 53) (z1 : ¬ (b = 27 ∧ j = 2)) (z2 : ¬ b = 28) (z4 : ¬ (b = dq ∧ j = 5)) (z5 : ¬ b = dq + 8) (z6 : ¬ b = dq + 9) : am_m h b j = am_m h0 b j := x.f.2 b j z1 z2 z4 z5 z6 (by have := x.g.n; omega)
theorem XG.t (x : XG h0 dq kd N h i S R w) : am_t h 27 = 2 := (x.tg (by decide)).trans x.g.t
theorem XG.f0 (x : XG h0 dq kd N h i S R w) : am_m h 27 0 = 28 := (have hq := x.g.qd; x.mg (by decide) (by decide) (by decide) (by omega) (by omega) (by omega)).trans x.g.f0
theorem XG.f1 (x : XG h0 dq kd N h i S R w) : am_m h 27 1 = 29 := (have hq := x.g.qd; x.mg (by decide) (by decide) (by decide) (by omega) (by omega) (by omega)).trans x.g.f1
theorem XG.f3 (x : XG h0 dq kd N h i S R w) : am_m h 27 3 = 22 := (have hq := x.g.qd; x.mg (by decide) (by decide) (by decide) (by omega) (by omega) (by omega)).trans x.g.f3
theorem XG.f4 (x : XG h0 dq kd N h i S R w) : am_m h 27 4 = dq := (have hq := x.g.qd; x.mg (by decide) (by decide) (by decide) (by omega) (by omega) (by omega)).trans x.g.f4
theorem XG.t0 (x : XG h0 dq kd N h i S R w) : am_t h 28 = 20 := (x.tg (by decide)).trans x.g.t0
theorem XG.l0 (x : XG h0 dq kd N h i S R w) : am_l h 28 = 401 := (x.lg (by decide)).trans x.g.l0
theorem XG.t1 (x : XG h0 dq kd N h i S R w) : am_t h 29 = 20 := (x.tg (by decide)).trans x.g.t1
theorem XG.l1 (x : XG h0 dq kd N h i S R w) : am_l h 29 = 401 := (x.lg (by decide)).trans x.g.l1
theorem XG.tt (x : XG h0 dq kd N h i S R w) : am_t h 22 = 5 := (x.tg (by decide)).trans x.g.tt
theorem XG.g0 (x : XG h0 dq kd N h i S R w) : am_m h 22 0 = 23 := (have hq := x.g.qd; x.mg (by decide) (by decide) (by decide) (by omega) (by omega) (by omega)).trans x.g.g0
theorem XG.tk (x : XG h0 dq kd N h i S R w) : am_t h 23 = 20 := (x.tg (by decide)).trans x.g.tk
theorem XG.lk (x : XG h0 dq kd N h i S R w) : am_l h 23 = 401 := (x.lg (by decide)).trans x.g.lk
theorem XG.ki (x : XG h0 dq kd N h i S R w) : am_m h 23 (i : Int) = kd i := (have hq := x.g.qd; x.mg (by decide) (by omega) (by decide) (by omega) (by omega) (by omega)).trans (x.g.kd i x.iN)
theorem XG.p (x : XG h0 dq kd N h i S R w) : am_t h dq = 4 ∧ am_m h dq 13 = dq + 8 ∧ am_t h (dq + 8) = 20 ∧ am_l h (dq + 8) = 400 ∧ am_m h dq 14 = dq + 9 ∧ am_t h (dq + 9) = 20 ∧ am_l h (dq + 9) = 400 := by
  have hq := x.g.qd
  have p := x.g.p
  have e : ∀ j, j ≠ 5 → am_m h dq j = am_m h0 dq j := fun j hj => x.mg (by omega) (by omega) (by omega) (by omega) (by omega) (by omega)
  exact ⟨(x.tg (by omega)).trans p.t, (e _ (by decide)).trans p.f13, (x.tg (by omega)).trans p.t8, (x.lg (by omega)).trans p.l8, (e _ (by decide)).trans p.f14, (x.tg (by omega)).trans p.t9, (x.lg (by omega)).trans p.l9⟩
/-- one slack less -/
theorem XG.le (x : XG h0 dq kd N h i S R w) {w2 : Nat} (hw : w2 ≤ w) : XG h0 dq kd N h i S R w2 := by
  obtain ⟨a1, a2, a3, a4, a5, a6, a7, a8, a9⟩ := x
  exact ⟨a1, a2, a3, a4, a5, a6, a7, by omega, a9⟩
theorem XG.lt (x : XG h0 dq kd N h i S R w) {c : Int} (hc : c ≠ 260 ∧ c ≠ 261) (z : kd i = c) : i < N := by
  have a := x.iN
  have b := x.g.en
  by_cases e : i = N
  · subst e
    omega
  · omega
theorem XG.take (x : XG h0 dq kd N h i S R w) {v : Int} (hi : i < N) : XG h0 dq kd N (am_w (am_w h 28 (i : Int) v) 27 2 ((i + 1 : Nat) : Int)) (i + 1) S (R ++ [v]) (w + 1) := by
  have hq := x.g.qd
  have bd := x.bd
  have rl := x.rl
  refine ⟨x.g, (x.f.w hq (Or.inr (Or.inl rfl))).w hq (Or.inl ⟨rfl, rfl⟩), by rw [am_m_w, if_pos ⟨rfl, rfl⟩], ?_, ?_, ?_, ?_, by omega, by omega⟩
  · rw [am_m_w, if_neg (by omega), am_m_w, if_neg (by omega)]
    exact x.cn
  · refine RW.cg (fun j z1 z2 => ?_) x.st
    show (_, _) = (_, _)
    rw [am_m_w, if_neg (by omega), am_m_w, if_neg (by omega), am_m_w, if_neg (by omega), am_m_w, if_neg (by omega)]
  · refine RW.snoc (RW.cg (fun j z1 z2 => ?_) x.ro) ?_
    · show am_m _ _ _ = _
      rw [am_m_w, if_neg (by omega), am_m_w, if_neg (by omega)]
    · show am_m _ _ _ = _
      rw [am_m_w, if_neg (by omega), am_m_w, if_pos ⟨rfl, by omega⟩]
  · rw [List.length_append, rl]
    rfl
theorem XG.wr (x : XG h0 dq kd N h i S R (w + 1)) {a b : Int} : XG h0 dq kd N (am_w (am_w (am_w h (dq + 8) (S.length : Int) a) (dq + 9) (S.length : Int) b) dq 5 ((S.length + 1 : Nat) : Int)) i (S ++ [(a, b)]) R w := by
  have hq := x.g.qd
  have bd := x.bd
  have rl := x.rl
  refine ⟨x.g, ((x.f.w hq (by omega)).w hq (by omega)).w hq (by omega), ?_, ?_, ?_, ?_, rl, ?_, x.iN⟩
  · rw [am_m_w, if_neg (by omega), am_m_w, if_neg (by omega), am_m_w, if_neg (by omega)]
    exact x.po
  · rw [am_m_w, if_pos ⟨rfl, rfl⟩, List.length_append]
    rfl
  · refine RW.snoc (RW.cg (fun j z1 z2 => ?_) x.st) ?_
    · show (_, _) = (_, _)
      rw [am_m_w, if_neg (by omega), am_m_w, if_neg (by omega), am_m_w, if_neg (by omega), am_m_w, if_neg (by omega), am_m_w, if_neg (by omega), am_m_w, if_neg (by omega)]
    · show (_, _) = (_, _)
      rw [am_m_w, if_neg (by omega), am_m_w, if_neg (by omega), am_m_w, if_pos ⟨rfl, by omega⟩, am_m_w, if_neg (by omega), am_m_w, if_pos ⟨rfl, by omega⟩]
  · refine RW.cg (fun j z1 z2 => ?_) x.ro
    show am_m _ _ _ = _
    rw [am_m_w, if_neg (by omega), am_m_w, if_neg (by omega), am_m_w, if_neg (by omega)]
  · rw [List.length_append]
    show S.length + 1 + w ≤ i
    omega
theorem c29 (x : XG h0 dq kd N h i S R w) (k : K 0 (kd i) h) : am_call d 29 [(2, 27)] h K := by
  have iN := x.iN
  have N4 := x.g.N4
  refine v29 ?_
  simp only [x.t, x.po, x.f3, x.tt, x.g0, x.tk, x.lk, x.ki, true_and]
  exact ⟨fun z => absurd z (by omega), fun _ => ⟨⟨by decide, by decide⟩, fun _ => ⟨⟨by omega, by omega⟩, k⟩, fun z => absurd z (by omega)⟩⟩
theorem c31b {c ro : Int} (hc : c ≠ 260 ∧ c ≠ 261) (x : XG h0 dq kd N h i S R w) (kY : kd i = c → ∀ h2, XG h0 dq kd N h2 (i + 1) S (R ++ [ro]) (w + 1) → K 0 1 h2) (kN : kd i ≠ c → K 0 0 h) : am_call d 31 [(2, 27), (0, c), (0, ro)] h K := by
  have iN := x.iN
  have N4 := x.g.N4
  have f := x.f
  have po := x.po
  refine v31 ?_
  simp only [x.t, x.po, x.f0, x.t0, x.l0, x.f3, x.tt, x.g0, x.tk, x.lk, x.ki, true_or, or_true, true_and]
  refine ⟨fun z => absurd z (by omega), fun _ => ⟨fun _ => ⟨⟨by omega, by omega⟩, fun z => ?_, kN⟩, fun z => ?_⟩⟩
  · have hi := x.lt hc z
    have x2 := x.take (v := ro) hi
    have e : am_m (am_w h 28 (i : Int) ro) 27 2 = (i : Int) := by
      rw [am_m_w, if_neg (by omega)]
      exact po
    have e2 : am_t (am_w h 28 (i : Int) ro) 27 = 2 := x.t
    simp only [e, e2, true_and]
    rw [w32_id (x := (i : Int) + 1) (by omega) (by omega)]
    rw [show ((i + 1 : Nat) : Int) = (i : Int) + 1 by omega] at x2
    exact ⟨⟨by omega, by omega⟩, kY z _ x2⟩
  · have e : i = N := by omega
    have en := x.g.en
    exact kN (by rw [e]; omega)
theorem c31 {c ro : Int} (hc : c ≠ 260 ∧ c ≠ 261) (x : XG h0 dq kd N h i S R w) (k : PG h0 dq kd N S R (w + 1) K (tk kd c ro i)) : am_call d 31 [(2, 27), (0, c), (0, ro)] h K := by
  unfold tk at k
  refine c31b hc x (fun z h2 x2 => ?_) (fun z => ?_)
  · rw [if_pos z] at k
    refine k h2 ?_
    show XG h0 dq kd N h2 (i + 1) (S ++ []) (R ++ [ro]) (w + 1)
    rw [List.append_nil]
    exact x2
  · rw [if_neg z] at k
    exact k x.iN h x.f x.po
theorem c33 {a b : Int} (x : XG h0 dq kd N h i S R (w + 1)) (k : ∀ h2, XG h0 dq kd N h2 i (S ++ [(a, b)]) R w → K 0 1 h2) : am_call d 33 [(2, 27), (0, a), (0, b)] h K := by
  have iN := x.iN
  have N4 := x.g.N4
  have bd := x.bd
  have hq := x.g.qd
  obtain ⟨p1, p2, p3, p4, p5, p6, p7⟩ := x.p
  have k2 := k _ x.wr
  rw [show ((S.length + 1 : Nat) : Int) = (S.length : Int) + 1 by omega] at k2
  have f4 := x.f4
  have tt := x.t
  refine v33 ?_
  simp only [x.t, x.f4, x.cn, p1, p2, p3, p4, true_or, or_true, true_and]
  refine ⟨fun z => absurd z (by omega), fun _ => ⟨⟨by decide, by decide⟩, fun _ => ⟨⟨by omega, by omega⟩, v33_46 ?_⟩, fun z => absurd z (by omega)⟩⟩
  have e : ∀ b j v1 v2, b < dq + 8 ∨ dq + 9 < b → am_m (am_w h (dq + 8) v1 v2) b j = am_m h b j := fun b j v1 v2 z => by rw [am_m_w, if_neg (by omega)]
  simp only [am_t_w, am_l_w, e 27 _ _ _ (by omega), e dq _ _ _ (by omega), tt, f4, x.cn, p1, p5, p6, p7, true_and]
  refine ⟨⟨by omega, by omega⟩, v33_62 ?_⟩
  have e2 : ∀ b j v1 v2 v3 v4, b < dq + 8 ∨ dq + 9 < b → am_m (am_w (am_w h (dq + 8) v1 v2) (dq + 9) v3 v4) b j = am_m h b j := fun b j v1 v2 v3 v4 z => by rw [am_m_w, if_neg (by omega), am_m_w, if_neg (by omega)]
  simp only [am_t_w, am_l_w, e2 27 _ _ _ _ _ (by omega), e2 dq _ _ _ _ _ (by omega), tt, f4, x.cn, p1, true_and]
  rw [w32_id (x := (S.length : Int) + 1) (by omega) (by omega)]
  refine v33_75 ?_
  simp only [or_true, true_and]
  exact k2
/-! the ways on -/
theorem PG.la {r : PR} {w2 : Nat} (hw : w ≤ w2) (k : PG h0 dq kd N S R w K r) : PG h0 dq kd N S R w2 (fun x v h => am_okx x ((v = 0 → ((0 : Int) = 0 ∨ (0 : Int) = 1) ∧ K 0 0 h) ∧ (¬ v = 0 → ((1 : Int) = 0 ∨ (1 : Int) = 1) ∧ K 0 1 h))) r := by
  cases r with
  | inl j => exact fun z h2 f e => okx ⟨fun _ => ⟨Or.inl rfl, k z h2 f e⟩, fun z => absurd rfl z⟩
  | inr r => exact fun h2 x => okx ⟨fun z => absurd z (by decide), fun _ => ⟨Or.inr rfl, k h2 (x.le hw)⟩⟩
theorem PG.bv {r : PR} {w2 : Nat} (hw : w ≤ w2) (k : PG h0 dq kd N S R w K r) : PG h0 dq kd N S R w2 (fun x v h => am_okx x ((v = 0 ∨ v = 1) ∧ K 0 v h)) r := by
  cases r with
  | inl j => exact fun z h2 f e => okx ⟨Or.inl rfl, k z h2 f e⟩
  | inr r => exact fun h2 x => okx ⟨Or.inr rfl, k h2 (x.le hw)⟩
theorem PG.ch {r : PR} {f : GF} {w2 : Nat} {G : AH → Prop} (k : PG h0 dq kd N S R w K (bnd r f)) (hT : ∀ j s t h2, XG h0 dq kd N h2 j (S ++ css s) (R ++ t) w2 → PG h0 dq kd N (S ++ css s) (R ++ t) w K (f j) → G h2) : PG h0 dq kd N S R w2 (fun x v h => am_okx x ((v = 0 → ((0 : Int) = 0 ∨ (0 : Int) = 1) ∧ K 0 0 h) ∧ (¬ v = 0 → G h))) r := by
  cases r with
  | inl j => exact fun z h2 f e => okx ⟨fun _ => ⟨Or.inl rfl, k z h2 f e⟩, fun z => absurd rfl z⟩
  | inr r =>
    obtain ⟨j, s, t⟩ := r
    refine fun h2 x => okx ⟨fun z => absurd z (by decide), fun _ => hT j s t h2 x ?_⟩
    have k' : PG h0 dq kd N S R w K (match f j with | .inl k => .inl k | .inr (k, s2, t2) => .inr (k, s ++ s2, t ++ t2)) := k
    revert k'
    cases f j with
    | inl m => exact fun k' => k'
    | inr q =>
      obtain ⟨m, s2, t2⟩ := q
      intro k' h3 x3
      refine k' h3 ?_
      rw [css_app, ← List.append_assoc, ← List.append_assoc]
      exact x3
theorem PG.eo {o : Op} {j : Nat} (ho : o.1 ≠ 11) (k : PG h0 dq kd N S R w K (em o j)) : ∀ h2, XG h0 dq kd N h2 j (S ++ [(o.1, o.2.1)]) R w → K 0 1 h2 := by
  intro h2 x
  refine k h2 ?_
  have e : css [o] = [(o.1, o.2.1)] := by
    show cs o ++ [] = _
    unfold cs
    rw [if_neg ho]
    rfl
  rw [e, List.append_nil]
  exact x
/-- what was written, then what goes on -/
theorem PG.es {o : Op} {j : Nat} {f : GF} (ho : o.1 ≠ 11) (k : PG h0 dq kd N S R w K (bnd (em o j) f)) : PG h0 dq kd N (S ++ [(o.1, o.2.1)]) R w K (f j) := by
  have e : css [o] = [(o.1, o.2.1)] := by
    show cs o ++ [] = _
    unfold cs
    rw [if_neg ho]
    rfl
  have k' : PG h0 dq kd N S R w K (match f j with | .inl k => .inl k | .inr (k, s2, t2) => .inr (k, [o] ++ s2, [] ++ t2)) := k
  revert k'
  cases f j with
  | inl m => exact fun k' => k'
  | inr q =>
    obtain ⟨m, s2, t2⟩ := q
    intro k' h3 x3
    refine k' h3 ?_
    rw [css_app, e, ← List.append_assoc]
    exact x3
theorem c30 {c : Int} (hc : c ≠ 260 ∧ c ≠ 261) (hD : 1 ≤ D) (x : XG h0 dq kd N h i S R w) (k : PG h0 dq kd N S R (w + 1) K (tk kd c 0 i)) : am_call D 30 [(2, 27), (0, c)] h K := by
  obtain ⟨d, rfl⟩ : ∃ d, D = d + 1 := ⟨D - 1, by omega⟩
  exact v30 ⟨x.t, c31 hc x (k.bv (Nat.le_refl _))⟩
theorem c30b {c : Int} (hc : c ≠ 260 ∧ c ≠ 261) (hD : 1 ≤ D) (x : XG h0 dq kd N h i S R w) (kY : kd i = c → ∀ h2, XG h0 dq kd N h2 (i + 1) S (R ++ [0]) (w + 1) → K 0 1 h2) (kN : kd i ≠ c → K 0 0 h) : am_call D 30 [(2, 27), (0, c)] h K := by
  obtain ⟨d, rfl⟩ : ∃ d, D = d + 1 := ⟨D - 1, by omega⟩
  exact v30 ⟨x.t, c31b hc x (fun z h2 x2 => okx ⟨Or.inr rfl, kY z h2 x2⟩) (fun z => okx ⟨Or.inl rfl, kN z⟩)⟩
theorem PG.ty {c ro : Int} {f : GF} (z : kd i = c) (k : PG h0 dq kd N S R w K (bnd (tk kd c ro i) f)) : PG h0 dq kd N S (R ++ [ro]) w K (f (i + 1)) := by
  unfold tk at k
  rw [if_pos z] at k
  have k' : PG h0 dq kd N S R w K (match f (i + 1) with | .inl k => .inl k | .inr (k, s2, t2) => .inr (k, [] ++ s2, [ro] ++ t2)) := k
  revert k'
  cases f (i + 1) with
  | inl m => exact fun k' => k'
  | inr q =>
    obtain ⟨m, s2, t2⟩ := q
    intro k' h3 x3
    refine k' h3 ?_
    rw [← List.append_assoc]
    exact x3
theorem XG.gt {h5 : AH} {j : Nat} {S5 : List (Int × Int)} {t : List Int} {a : Int} {w5 : Nat} (x : XG h0 dq kd N h i S R w) (x5 : XG h0 dq kd N h5 j S5 ((R ++ [a]) ++ t) w5) : i < j := by
  have e := x5.rl
  rw [List.length_append, List.length_append, x.rl] at e
  have e2 : i + 1 + t.length = j := e
  omega
theorem c32 {a : Int} (hD : 1 ≤ D) (x : XG h0 dq kd N h i S R (w + 1)) (k : ∀ h2, XG h0 dq kd N h2 i (S ++ [(a, 0)]) R w → K 0 1 h2) : am_call D 32 [(2, 27), (0, a)] h K := by
  obtain ⟨d, rfl⟩ : ∃ d, D = d + 1 := ⟨D - 1, by omega⟩
  exact v32 ⟨x.t, c33 x (fun h2 x2 => okx ⟨Or.inr rfl, k h2 x2⟩)⟩
/-- a write in a row of ands -/
theorem c32c {a : Int} {Z G : AH → Prop} (hD : 1 ≤ D) (x : XG h0 dq kd N h i S R (w + 1)) (k : ∀ h2, XG h0 dq kd N h2 i (S ++ [(a, 0)]) R w → G h2) : am_call D 32 [(2, 27), (0, a)] h (fun x v h => am_okx x ((v = 0 → Z h) ∧ (¬ v = 0 → G h))) :=
  c32 hD x (fun h2 x2 => okx ⟨fun z => absurd z (by decide), fun _ => k h2 x2⟩)
/-- the last write -/
theorem c32e {a : Int} (ha : a ≠ 11) (hD : 1 ≤ D) (x : XG h0 dq kd N h i S R (w + 1)) (k : PG h0 dq kd N S R w K (em (a, 0, 0) i)) : am_call D 32 [(2, 27), (0, a)] h (fun x v h => am_okx x ((v = 0 → ((0 : Int) = 0 ∨ (0 : Int) = 1) ∧ K 0 0 h) ∧ (¬ v = 0 → ((1 : Int) = 0 ∨ (1 : Int) = 1) ∧ K 0 1 h))) :=
  c32c hD x (fun h2 x2 => ⟨Or.inr rfl, PG.eo (o := (a, 0, 0)) ha k h2 x2⟩)
theorem c33c {a b : Int} {Z G : AH → Prop} (x : XG h0 dq kd N h i S R (w + 1)) (k : ∀ h2, XG h0 dq kd N h2 i (S ++ [(a, b)]) R w → G h2) : am_call D 33 [(2, 27), (0, a), (0, b)] h (fun x v h => am_okx x ((v = 0 → Z h) ∧ (¬ v = 0 → G h))) :=
  c33 x (fun h2 x2 => okx ⟨fun z => absurd z (by decide), fun _ => k h2 x2⟩)
end
