/-! ===== the reference's grammar: kinds at 55, roles at 58, its plan at q ===== -/
def FM (h0 h : AH) (q : Int) : Prop := (am_n h0 ≤ am_n h ∧ am_sl h = am_sl h0 ∧ (∀ j, am_sx h j = am_sx h0 j) ∧ (∀ b, b < am_n h0 → am_t h b = am_t h0 b ∧ am_l h b = am_l h0 b)) ∧ ∀ b j, b < am_n h0 → ¬ (b = 53 ∧ (j = 10 ∨ j = 11)) → ¬ b = 58 → ¬ (b = q ∧ (j = 15 ∨ j = 17)) → ¬ b = q + 9 → ¬ b = q + 10 → am_m h b j = am_m h0 b j
theorem FM.rf {h : AH} {q : Int} : FM h h q := ⟨⟨Int.le_refl _, rfl, fun _ => rfl, fun _ _ => ⟨rfl, rfl⟩⟩, fun _ _ _ _ _ _ _ _ => rfl⟩
theorem FM.w {h0 h : AH} {q b i v : Int} (x : FM h0 h q) (hb : (b = 53 ∧ (i = 10 ∨ i = 11)) ∨ b = 58 ∨ (b = q ∧ (i = 15 ∨ i = 17)) ∨ b = q + 9 ∨ b = q + 10) : FM h0 (am_w h b i v) q := by
  refine ⟨x.1, fun c j z z1 z2 z3 z4 z5 => ?_⟩
  rw [am_m_w, if_neg (by omega)]
  exact x.2 c j z z1 z2 z3 z4 z5
/-- the same over the bans of a list -/
def FQM (h0 h : AH) (q : Int) : Prop := (am_n h0 ≤ am_n h ∧ am_sl h = am_sl h0 ∧ (∀ j, am_sx h j = am_sx h0 j) ∧ (∀ b, b < am_n h0 → am_t h b = am_t h0 b ∧ am_l h b = am_l h0 b)) ∧ ∀ b j, b < am_n h0 → ¬ (b = 53 ∧ (j = 10 ∨ j = 11)) → ¬ b = 58 → ¬ (b = q ∧ (j = 10 ∨ j = 15 ∨ j = 17)) → ¬ b = q + 7 → ¬ b = q + 8 → ¬ b = q + 9 → ¬ b = q + 10 → am_m h b j = am_m h0 b j
theorem FQM.rf {h : AH} {q : Int} : FQM h h q := ⟨⟨Int.le_refl _, rfl, fun _ => rfl, fun _ _ => ⟨rfl, rfl⟩⟩, fun _ _ _ _ _ _ _ _ _ _ => rfl⟩
theorem FM.q {h0 h : AH} {q : Int} (x : FM h0 h q) : FQM h0 h q := ⟨x.1, fun b j z0 z1 z2 z3 z4 z5 z6 z7 => x.2 b j z0 z1 z2 (fun y => z3 ⟨y.1, Or.inr y.2⟩) z6 z7⟩
theorem FQM.tr {h0 h h2 : AH} {q : Int} (x : FQM h0 h q) (y : FQM h h2 q) : FQM h0 h2 q := by
  obtain ⟨⟨a1, a2, a3, a4⟩, a5⟩ := x
  obtain ⟨⟨b1, b2, b3, b4⟩, b5⟩ := y
  exact ⟨⟨Int.le_trans a1 b1, b2.trans a2, fun j => (b3 j).trans (a3 j), fun b hb => ⟨(b4 b (Int.lt_of_lt_of_le hb a1)).1.trans (a4 b hb).1, (b4 b (Int.lt_of_lt_of_le hb a1)).2.trans (a4 b hb).2⟩⟩, fun b j z0 z1 z2 z3 z4 z5 z6 z7 => (b5 b j (Int.lt_of_lt_of_le z0 a1) z1 z2 z3 z4 z5 z6 z7).trans (a5 b j z0 z1 z2 z3 z4 z5 z6 z7)⟩
theorem FQM.w {h0 h : AH} {q b i v : Int} (x : FQM h0 h q) (hb : (b = q ∧ i = 10) ∨ b = q + 7 ∨ b = q + 8) : FQM h0 (am_w h b i v) q := by
  refine ⟨x.1, fun c j z z1 z2 z3 z4 z5 z6 z7 => ?_⟩
  rw [am_m_w, if_neg (by omega)]
  exact x.2 c j z z1 z2 z3 z4 z5 z6 z7
/-- the ground may be written in the same places -/
theorem FQM.b {h0 h : AH} {q b i v : Int} (x : FQM (am_w h0 b i v) h q) (hb : (b = q ∧ i = 10) ∨ b = q + 7 ∨ b = q + 8) : FQM h0 h q := by
  refine ⟨x.1, fun c j z z1 z2 z3 z4 z5 z6 z7 => ?_⟩
  have e := x.2 c j z z1 z2 z3 z4 z5 z6 z7
  rw [am_m_w, if_neg (by omega)] at e
  exact e
def GR (h : AH) (q : Int) (kd va : Nat → Int) (N : Nat) : Prop := (am_t h 53 = 9) ∧ (am_m h 53 5 = 55) ∧ (am_t h 55 = 20) ∧ (am_l h 55 = 401) ∧ (am_m h 53 8 = 58) ∧ (am_t h 58 = 20) ∧ (am_l h 58 = 401) ∧ (am_m h 53 13 = q) ∧ (P7 h q) ∧ (88 ≤ q) ∧ (∀ j : Nat, j ≤ N → am_m h 55 (j : Int) = rk (kd j)) ∧ (∀ j : Nat, j ≤ N → KV (kd j)) ∧ (N ≤ 400) ∧ (kd N = 260 ∨ kd N = 261) ∧ (∀ j, j < N → kd j ≠ 260 ∧ kd j ≠ 261) ∧ (∀ (d : Nat) (h2 : AH) (j : Nat) (K : AK), FQM h h2 q → j ≤ N → kd j = 257 → K 0 (va j) h2 → am_call d 188 [(2, 53), (0, (j : Int))] h2 K)
theorem GR.t {h : AH} {q : Int} {kd va : Nat → Int} {N : Nat} (x : GR h q kd va N) : am_t h 53 = 9 := x.1
theorem GR.f5 {h : AH} {q : Int} {kd va : Nat → Int} {N : Nat} (x : GR h q kd va N) : am_m h 53 5 = 55 := x.2.1
theorem GR.t5 {h : AH} {q : Int} {kd va : Nat → Int} {N : Nat} (x : GR h q kd va N) : am_t h 55 = 20 := x.2.2.1
theorem GR.l5 {h : AH} {q : Int} {kd va : Nat → Int} {N : Nat} (x : GR h q kd va N) : am_l h 55 = 401 := x.2.2.2.1
theorem GR.f8 {h : AH} {q : Int} {kd va : Nat → Int} {N : Nat} (x : GR h q kd va N) : am_m h 53 8 = 58 := x.2.2.2.2.1
theorem GR.t8 {h : AH} {q : Int} {kd va : Nat → Int} {N : Nat} (x : GR h q kd va N) : am_t h 58 = 20 := x.2.2.2.2.2.1
theorem GR.l8 {h : AH} {q : Int} {kd va : Nat → Int} {N : Nat} (x : GR h q kd va N) : am_l h 58 = 401 := x.2.2.2.2.2.2.1
theorem GR.f13 {h : AH} {q : Int} {kd va : Nat → Int} {N : Nat} (x : GR h q kd va N) : am_m h 53 13 = q := x.2.2.2.2.2.2.2.1
theorem GR.p {h : AH} {q : Int} {kd va : Nat → Int} {N : Nat} (x : GR h q kd va N) : P7 h q := x.2.2.2.2.2.2.2.2.1
theorem GR.qb {h : AH} {q : Int} {kd va : Nat → Int} {N : Nat} (x : GR h q kd va N) : 88 ≤ q := x.2.2.2.2.2.2.2.2.2.1
theorem GR.ki {h : AH} {q : Int} {kd va : Nat → Int} {N : Nat} (x : GR h q kd va N) : ∀ j : Nat, j ≤ N → am_m h 55 (j : Int) = rk (kd j) := x.2.2.2.2.2.2.2.2.2.2.1
theorem GR.kv {h : AH} {q : Int} {kd va : Nat → Int} {N : Nat} (x : GR h q kd va N) : ∀ j : Nat, j ≤ N → KV (kd j) := x.2.2.2.2.2.2.2.2.2.2.2.1
theorem GR.N4 {h : AH} {q : Int} {kd va : Nat → Int} {N : Nat} (x : GR h q kd va N) : N ≤ 400 := x.2.2.2.2.2.2.2.2.2.2.2.2.1
theorem GR.en {h : AH} {q : Int} {kd va : Nat → Int} {N : Nat} (x : GR h q kd va N) : kd N = 260 ∨ kd N = 261 := x.2.2.2.2.2.2.2.2.2.2.2.2.2.1
theorem GR.ne {h : AH} {q : Int} {kd va : Nat → Int} {N : Nat} (x : GR h q kd va N) : ∀ j, j < N → kd j ≠ 260 ∧ kd j ≠ 261 := x.2.2.2.2.2.2.2.2.2.2.2.2.2.2.1
theorem GR.nv {h : AH} {q : Int} {kd va : Nat → Int} {N : Nat} (x : GR h q kd va N) : ∀ (d : Nat) (h2 : AH) (j : Nat) (K : AK), FQM h h2 q → j ≤ N → kd j = 257 → K 0 (va j) h2 → am_call d 188 [(2, 53), (0, (j : Int))] h2 K := x.2.2.2.2.2.2.2.2.2.2.2.2.2.2.2
/-- roles as the reference has them -/
def mr (x : Int) : Int := if x = 7 then 8 else if x = 8 then 10 else if x = 9 then 7 else if x = 10 then 9 else if x = 14 then 0 else x
def mc (va : Nat → Int) (o : Op) : List Int := if o.1 = 11 then [7, o.2.1, o.2.2] else if o.1 = 1 then [32, va o.2.1.toNat] else if 4 ≤ o.1 ∧ o.1 ≤ 8 then [mco o.1, o.2.1] else [mco o.1]
def mcs (va : Nat → Int) : List Op → List Int
  | [] => []
  | o :: r => mc va o ++ mcs va r
theorem mcs_app {va : Nat → Int} : ∀ {L M : List Op}, mcs va (L ++ M) = mcs va L ++ mcs va M
  | [], _ => rfl
  | o :: r, M => by
    show mc va o ++ mcs va (r ++ M) = (mc va o ++ mcs va r) ++ mcs va M
    rw [mcs_app, List.append_assoc]
/-- where the names' numbers stand in the code -/
def mo (s : Int) (o : Op) : List Int := if o.1 = 11 then [s + 1, s + 2] else if 4 ≤ o.1 ∧ o.1 ≤ 8 then [s + 1] else []
def mos (va : Nat → Int) : Int → List Op → List Int
  | _, [] => []
  | s, o :: r => mo s o ++ mos va (s + ((mc va o).length : Int)) r
theorem mos_app {va : Nat → Int} : ∀ {L M : List Op} {s : Int}, mos va s (L ++ M) = mos va s L ++ mos va (s + ((mcs va L).length : Int)) M
  | [], M, s => by
    show mos va s M = [] ++ mos va (s + ((0 : Nat) : Int)) M
    rw [show s + ((0 : Nat) : Int) = s by omega]
    rfl
  | o :: r, M, s => by
    show mo s o ++ mos va (s + ((mc va o).length : Int)) (r ++ M) = (mo s o ++ mos va (s + ((mc va o).length : Int)) r) ++ mos va (s + ((mc va o ++ mcs va r).length : Int)) M
    rw [mos_app, List.append_assoc, List.length_append, show s + ((mc va o).length : Int) + ((mcs va r).length : Int) = s + (((mc va o).length + (mcs va r).length : Nat) : Int) by omega]
def XM (h0 : AH) (q : Int) (kd va : Nat → Int) (N : Nat) (h : AH) (i : Nat) (D : Int) (C O R : List Int) : Prop := GR h0 q kd va N ∧ FM h0 h q ∧ am_m h 53 10 = (i : Int) ∧ am_m h 53 11 = D ∧ am_m h q 15 = (C.length : Int) ∧ RW (fun j => am_m h (q + 9) j) 0 C ∧ am_m h q 17 = (O.length : Int) ∧ RW (fun j => am_m h (q + 10) j) 0 O ∧ RW (fun j => am_m h 58 j) 0 (R.map mr) ∧ R.length = i ∧ i ≤ N ∧ ∀ j : Nat, i ≤ j → j ≤ N → am_m h 58 (j : Int) = 0
/-- room -/
def WW (C O : List Int) (i w : Nat) : Prop := C.length + 2 * w ≤ 2 * i ∧ O.length + w ≤ i
def PM (h0 : AH) (q : Int) (kd va : Nat → Int) (N : Nat) (D : Int) (C O R : List Int) (w : Nat) (K : AK) : PR → Prop
  | .inl j => j ≤ N → ∀ h2, FM h0 h2 q → am_m h2 53 10 = (j : Int) → K 0 0 h2
  | .inr (j, s, t) => ∀ h2, XM h0 q kd va N h2 j D (C ++ mcs va s) (O ++ mos va (C.length : Int) s) (R ++ t) → WW (C ++ mcs va s) (O ++ mos va (C.length : Int) s) j w → K 0 1 h2
section
variable {d D : Nat} {h0 h : AH} {q dp : Int} {kd va : Nat → Int} {N i : Nat} {C O R : List Int} {w : Nat} {K : AK}
theorem XM.g (x : XM h0 q kd va N h i dp C O R) : GR h0 q kd va N := x.1
theorem XM.f (x : XM h0 q kd va N h i dp C O R) : FM h0 h q := x.2.1
theorem XM.po (x : XM h0 q kd va N h i dp C O R) : am_m h 53 10 = (i : Int) := x.2.2.1
theorem XM.dep (x : XM h0 q kd va N h i dp C O R) : am_m h 53 11 = dp := x.2.2.2.1
theorem XM.sz (x : XM h0 q kd va N h i dp C O R) : am_m h q 15 = (C.length : Int) := x.2.2.2.2.1
theorem XM.co (x : XM h0 q kd va N h i dp C O R) : RW (fun j => am_m h (q + 9) j) 0 C := x.2.2.2.2.2.1
theorem XM.os (x : XM h0 q kd va N h i dp C O R) : am_m h q 17 = (O.length : Int) := x.2.2.2.2.2.2.1
theorem XM.op (x : XM h0 q kd va N h i dp C O R) : RW (fun j => am_m h (q + 10) j) 0 O := x.2.2.2.2.2.2.2.1
theorem XM.ro (x : XM h0 q kd va N h i dp C O R) : RW (fun j => am_m h 58 j) 0 (R.map mr) := x.2.2.2.2.2.2.2.2.1
theorem XM.rl (x : XM h0 q kd va N h i dp C O R) : R.length = i := x.2.2.2.2.2.2.2.2.2.1
theorem XM.iN (x : XM h0 q kd va N h i dp C O R) : i ≤ N := x.2.2.2.2.2.2.2.2.2.2.1
theorem XM.zs (x : XM h0 q kd va N h i dp C O R) : ∀ j : Nat, i ≤ j → j ≤ N → am_m h 58 (j : Int) = 0 := x.2.2.2.2.2.2.2.2.2.2.2
theorem XM.qn (x : XM h0 q kd va N h i dp C O R) : 88 ≤ q ∧ q + 10 < am_n h0 := ⟨x.g.qb, x.g.p.b⟩
theorem XM.tg (x : XM h0 q kd va N h i dp C O R) {b : Int} (hb : b ≤ q + 10) : am_t h b = am_t h0 b := (x.f.1.2.2.2 b (by have := x.qn; omega)).1
theorem XM.lg (x : XM h0 q kd va N h i dp C O R) {b : Int} (hb : b ≤ q + 10) : am_l h b = am_l h0 b := (x.f.1.2.2.2 b (by have := x.qn; omega)).2
theorem XM.t (x : XM h0 q kd va N h i dp C O R) : am_t h 53 = 9 := (x.tg (by have := x.qn; omega)).trans x.g.t
theorem XM.t5 (x : XM h0 q kd va N h i dp C O R) : am_t h 55 = 20 := (x.tg (by have := x.qn; omega)).trans x.g.t5
theorem XM.l5 (x : XM h0 q kd va N h i dp C O R) : am_l h 55 = 401 := (x.lg (by have := x.qn; omega)).trans x.g.l5
theorem XM.t8 (x : XM h0 q kd va N h i dp C O R) : am_t h 58 = 20 := (x.tg (by have := x.qn; omega)).trans x.g.t8
theorem XM.l8 (x : XM h0 q kd va N h i dp C O R) : am_l h 58 = 401 := (x.lg (by have := x.qn; omega)).trans x.g.l8
theorem XM.m53 (x : XM h0 q kd va N h i dp C O R) {j : Int} (hj : j ≠ 10 ∧ j ≠ 11) : am_m h 53 j = am_m h0 53 j := by
  have qn := x.qn
  exact x.f.2 53 j (by omega) (by omega) (by omega) (by omega) (by omega) (by omega)
theorem XM.f5 (x : XM h0 q kd va N h i dp C O R) : am_m h 53 5 = 55 := (x.m53 (by decide)).trans x.g.f5
theorem XM.f8 (x : XM h0 q kd va N h i dp C O R) : am_m h 53 8 = 58 := (x.m53 (by decide)).trans x.g.f8
theorem XM.f13 (x : XM h0 q kd va N h i dp C O R) : am_m h 53 13 = q := (x.m53 (by decide)).trans x.g.f13
theorem XM.ki (x : XM h0 q kd va N h i dp C O R) : am_m h 55 (i : Int) = rk (kd i) := by
  have qn := x.qn
  exact (x.f.2 55 i (by omega) (by omega) (by omega) (by omega) (by omega) (by omega)).trans (x.g.ki i x.iN)
theorem XM.p (x : XM h0 q kd va N h i dp C O R) : am_t h q = 7 ∧ am_m h q 14 = q + 9 ∧ am_t h (q + 9) = 20 ∧ am_l h (q + 9) = 800 ∧ am_m h q 16 = q + 10 ∧ am_t h (q + 10) = 20 ∧ am_l h (q + 10) = 400 := by
  have qn := x.qn
  have p := x.g.p
  have e : ∀ j, j ≠ 15 ∧ j ≠ 17 → am_m h q j = am_m h0 q j := fun j hj => x.f.2 q j (by omega) (by omega) (by omega) (by omega) (by omega) (by omega)
  exact ⟨(x.tg (by omega)).trans p.t, (e _ (by decide)).trans p.f14, (x.tg (by omega)).trans p.t9, (x.lg (by omega)).trans p.l9, (e _ (by decide)).trans p.f16, (x.tg (by omega)).trans p.t10, (x.lg (by omega)).trans p.l10⟩
theorem XM.lt (x : XM h0 q kd va N h i dp C O R) {c : Int} (hc : c ≠ 260 ∧ c ≠ 261) (z : kd i = c) : i < N := by
  have a := x.iN
  have b := x.g.en
  by_cases e : i = N
  · subst e
    omega
  · omega
theorem XM.nn (x : XM h0 q kd va N h i dp C O R) (hc : kd i ≠ 260 ∧ kd i ≠ 261) : i < N := x.lt hc rfl
theorem XM.take (x : XM h0 q kd va N h i dp C O R) {v ro : Int} (hv : v = mr ro) (hi : i < N) : XM h0 q kd va N (am_w (am_w h 58 (i : Int) v) 53 10 ((i + 1 : Nat) : Int)) (i + 1) dp C O (R ++ [ro]) := by
  have qn := x.qn
  have rl := x.rl
  have e : ∀ b j, b ≠ 58 → ¬ (b = 53 ∧ j = 10) → am_m (am_w (am_w h 58 (i : Int) v) 53 10 ((i + 1 : Nat) : Int)) b j = am_m h b j := fun b j z1 z2 => by rw [am_m_w, if_neg z2, am_m_w, if_neg (fun y => z1 y.1)]
  refine ⟨x.g, (x.f.w (Or.inr (Or.inl rfl))).w (Or.inl ⟨rfl, Or.inl rfl⟩), by rw [am_m_w, if_pos ⟨rfl, rfl⟩], (e _ _ (by decide) (by decide)).trans x.dep, (e _ _ (by omega) (by omega)).trans x.sz, RW.cg (fun j _ _ => e _ _ (by omega) (by omega)) x.co, (e _ _ (by omega) (by omega)).trans x.os, RW.cg (fun j _ _ => e _ _ (by omega) (by omega)) x.op, ?_, by rw [List.length_append, rl]; rfl, by omega, fun j z1 z2 => ?_⟩
  · rw [List.map_append]
    refine RW.snoc (RW.cg (fun j z1 z2 => ?_) x.ro) ?_
    · rw [List.length_map] at z2
      show am_m _ _ _ = _
      rw [am_m_w, if_neg (by omega), am_m_w, if_neg (by omega)]
    · show am_m _ _ _ = _
      rw [List.length_map, am_m_w, if_neg (by omega), am_m_w, if_pos ⟨rfl, by omega⟩]
      exact hv
  · rw [am_m_w, if_neg (by omega), am_m_w, if_neg (by omega)]
    exact x.zs j (by omega) z2
theorem XM.nxr {ro : Int} (hro : mr ro = 0) (x : XM h0 q kd va N h i dp C O R) (hi : i < N) : XM h0 q kd va N (am_w h 53 10 ((i + 1 : Nat) : Int)) (i + 1) dp C O (R ++ [ro]) := by
  have qn := x.qn
  have rl := x.rl
  have e : ∀ b j, ¬ (b = 53 ∧ j = 10) → am_m (am_w h 53 10 ((i + 1 : Nat) : Int)) b j = am_m h b j := fun b j z2 => by rw [am_m_w, if_neg z2]
  refine ⟨x.g, x.f.w (Or.inl ⟨rfl, Or.inl rfl⟩), by rw [am_m_w, if_pos ⟨rfl, rfl⟩], (e _ _ (by decide)).trans x.dep, (e _ _ (by omega)).trans x.sz, RW.cg (fun j _ _ => e _ _ (by omega)) x.co, (e _ _ (by omega)).trans x.os, RW.cg (fun j _ _ => e _ _ (by omega)) x.op, ?_, by rw [List.length_append, rl]; rfl, by omega, fun j z1 z2 => (e _ _ (by omega)).trans (x.zs j (by omega) z2)⟩
  rw [List.map_append]
  refine RW.snoc (RW.cg (fun j _ _ => e _ _ (by omega)) x.ro) ?_
  rw [List.length_map, rl, show (0 : Int) + (i : Int) = (i : Int) by omega]
  exact ((e _ _ (by omega)).trans (x.zs i (Nat.le_refl _) (by omega))).trans hro.symm
theorem XM.nx (x : XM h0 q kd va N h i dp C O R) (hi : i < N) : XM h0 q kd va N (am_w h 53 10 ((i + 1 : Nat) : Int)) (i + 1) dp C O (R ++ [0]) := x.nxr rfl hi
theorem XM.dw (x : XM h0 q kd va N h i dp C O R) (v : Int) : XM h0 q kd va N (am_w h 53 11 v) i v C O R := by
  have qn := x.qn
  have e : ∀ b j, ¬ (b = 53 ∧ j = 11) → am_m (am_w h 53 11 v) b j = am_m h b j := fun b j z2 => by rw [am_m_w, if_neg z2]
  exact ⟨x.g, x.f.w (Or.inl ⟨rfl, Or.inr rfl⟩), (e _ _ (by decide)).trans x.po, by rw [am_m_w, if_pos ⟨rfl, rfl⟩], (e _ _ (by omega)).trans x.sz, RW.cg (fun j _ _ => e _ _ (by omega)) x.co, (e _ _ (by omega)).trans x.os, RW.cg (fun j _ _ => e _ _ (by omega)) x.op, RW.cg (fun j _ _ => e _ _ (by omega)) x.ro, x.rl, x.iN, fun j z1 z2 => (e _ _ (by omega)).trans (x.zs j z1 z2)⟩
theorem XM.put (x : XM h0 q kd va N h i dp C O R) (v : Int) : XM h0 q kd va N (am_w (am_w h (q + 9) (C.length : Int) v) q 15 ((C.length + 1 : Nat) : Int)) i dp (C ++ [v]) O R := by
  have qn := x.qn
  have e : ∀ b j, b ≠ q + 9 → ¬ (b = q ∧ j = 15) → am_m (am_w (am_w h (q + 9) (C.length : Int) v) q 15 ((C.length + 1 : Nat) : Int)) b j = am_m h b j := fun b j z1 z2 => by rw [am_m_w, if_neg z2, am_m_w, if_neg (fun y => z1 y.1)]
  refine ⟨x.g, (x.f.w (Or.inr (Or.inr (Or.inr (Or.inl rfl))))).w (Or.inr (Or.inr (Or.inl ⟨rfl, Or.inl rfl⟩))), (e _ _ (by omega) (by omega)).trans x.po, (e _ _ (by omega) (by omega)).trans x.dep, by rw [am_m_w, if_pos ⟨rfl, rfl⟩, List.length_append]; rfl, ?_, (e _ _ (by omega) (by omega)).trans x.os, RW.cg (fun j _ _ => e _ _ (by omega) (by omega)) x.op, RW.cg (fun j _ _ => e _ _ (by omega) (by omega)) x.ro, x.rl, x.iN, fun j z1 z2 => (e _ _ (by omega) (by omega)).trans (x.zs j z1 z2)⟩
  refine RW.snoc (RW.cg (fun j z1 z2 => ?_) x.co) ?_
  · show am_m _ _ _ = _
    rw [am_m_w, if_neg (by omega), am_m_w, if_neg (by omega)]
  · show am_m _ _ _ = _
    rw [am_m_w, if_neg (by omega), am_m_w, if_pos ⟨rfl, by omega⟩]
theorem XM.opn (x : XM h0 q kd va N h i dp C O R) (v : Int) : XM h0 q kd va N (am_w (am_w h (q + 10) (O.length : Int) v) q 17 ((O.length + 1 : Nat) : Int)) i dp C (O ++ [v]) R := by
  have qn := x.qn
  have e : ∀ b j, b ≠ q + 10 → ¬ (b = q ∧ j = 17) → am_m (am_w (am_w h (q + 10) (O.length : Int) v) q 17 ((O.length + 1 : Nat) : Int)) b j = am_m h b j := fun b j z1 z2 => by rw [am_m_w, if_neg z2, am_m_w, if_neg (fun y => z1 y.1)]
  refine ⟨x.g, (x.f.w (Or.inr (Or.inr (Or.inr (Or.inr rfl))))).w (Or.inr (Or.inr (Or.inl ⟨rfl, Or.inr rfl⟩))), (e _ _ (by omega) (by omega)).trans x.po, (e _ _ (by omega) (by omega)).trans x.dep, (e _ _ (by omega) (by omega)).trans x.sz, RW.cg (fun j _ _ => e _ _ (by omega) (by omega)) x.co, by rw [am_m_w, if_pos ⟨rfl, rfl⟩, List.length_append]; rfl, ?_, RW.cg (fun j _ _ => e _ _ (by omega) (by omega)) x.ro, x.rl, x.iN, fun j z1 z2 => (e _ _ (by omega) (by omega)).trans (x.zs j z1 z2)⟩
  refine RW.snoc (RW.cg (fun j z1 z2 => ?_) x.op) ?_
  · show am_m _ _ _ = _
    rw [am_m_w, if_neg (by omega), am_m_w, if_neg (by omega)]
  · show am_m _ _ _ = _
    rw [am_m_w, if_neg (by omega), am_m_w, if_pos ⟨rfl, by omega⟩]
/-! the ways on -/
theorem PM.er (x : XM h0 q kd va N h i dp C O R) (k : PM h0 q kd va N dp C O R w K (.inl i)) : K 0 0 h := k x.iN h x.f x.po
theorem PM.la {r : PR} {w2 : Nat} (hw : w ≤ w2) (k : PM h0 q kd va N dp C O R w K r) : PM h0 q kd va N dp C O R w2 (fun x v h => am_okx x ((v = 0 → ((0 : Int) = 0 ∨ (0 : Int) = 1) ∧ K 0 0 h) ∧ (¬ v = 0 → ((1 : Int) = 0 ∨ (1 : Int) = 1) ∧ K 0 1 h))) r := by
  cases r with
  | inl j => exact fun z h2 f e => okx ⟨fun _ => ⟨Or.inl rfl, k z h2 f e⟩, fun z => absurd rfl z⟩
  | inr r => exact fun h2 x ww => okx ⟨fun z => absurd z (by decide), fun _ => ⟨Or.inr rfl, k h2 x ⟨by have := ww.1; omega, by have := ww.2; omega⟩⟩⟩
theorem PM.bv {r : PR} {w2 : Nat} (hw : w ≤ w2) (k : PM h0 q kd va N dp C O R w K r) : PM h0 q kd va N dp C O R w2 (fun x v h => am_okx x ((v = 0 ∨ v = 1) ∧ K 0 v h)) r := by
  cases r with
  | inl j => exact fun z h2 f e => okx ⟨Or.inl rfl, k z h2 f e⟩
  | inr r => exact fun h2 x ww => okx ⟨Or.inr rfl, k h2 x ⟨by have := ww.1; omega, by have := ww.2; omega⟩⟩
theorem PM.ch {r : PR} {f : GF} {w2 : Nat} {G : AH → Prop} {dp2 : Int} (k : PM h0 q kd va N dp2 C O R w K (bnd r f)) (hT : ∀ j s t h2, XM h0 q kd va N h2 j dp (C ++ mcs va s) (O ++ mos va (C.length : Int) s) (R ++ t) → WW (C ++ mcs va s) (O ++ mos va (C.length : Int) s) j w2 → PM h0 q kd va N dp2 (C ++ mcs va s) (O ++ mos va (C.length : Int) s) (R ++ t) w K (f j) → G h2) : PM h0 q kd va N dp C O R w2 (fun x v h => am_okx x ((v = 0 → ((0 : Int) = 0 ∨ (0 : Int) = 1) ∧ K 0 0 h) ∧ (¬ v = 0 → G h))) r := by
  cases r with
  | inl j => exact fun z h2 f e => okx ⟨fun _ => ⟨Or.inl rfl, k z h2 f e⟩, fun z => absurd rfl z⟩
  | inr r =>
    obtain ⟨j, s, t⟩ := r
    refine fun h2 x ww => okx ⟨fun z => absurd z (by decide), fun _ => hT j s t h2 x ww ?_⟩
    have k' : PM h0 q kd va N dp2 C O R w K (match f j with | .inl k => .inl k | .inr (k, s2, t2) => .inr (k, s ++ s2, t ++ t2)) := k
    revert k'
    cases f j with
    | inl m => exact fun k' => k'
    | inr q2 =>
      obtain ⟨m, s2, t2⟩ := q2
      intro k' h3 x3 w3
      have e1 : C ++ mcs va (s ++ s2) = (C ++ mcs va s) ++ mcs va s2 := by rw [mcs_app, List.append_assoc]
      have e2 : O ++ mos va (C.length : Int) (s ++ s2) = (O ++ mos va (C.length : Int) s) ++ mos va ((C ++ mcs va s).length : Int) s2 := by
        rw [mos_app, ← List.append_assoc, List.length_append, show ((C.length + (mcs va s).length : Nat) : Int) = (C.length : Int) + ((mcs va s).length : Int) by omega]
      refine k' h3 ?_ ?_
      · rw [e1, e2, ← List.append_assoc R]
        exact x3
      · rw [e1, e2]
        exact w3
theorem PM.ty {c ro : Int} {f : GF} (z : kd i = c) (k : PM h0 q kd va N dp C O R w K (bnd (tk kd c ro i) f)) : PM h0 q kd va N dp C O (R ++ [ro]) w K (f (i + 1)) := by
  unfold tk at k
  rw [if_pos z] at k
  have k' : PM h0 q kd va N dp C O R w K (match f (i + 1) with | .inl k => .inl k | .inr (k, s2, t2) => .inr (k, [] ++ s2, [ro] ++ t2)) := k
  revert k'
  cases f (i + 1) with
  | inl m => exact fun k' => k'
  | inr q2 =>
    obtain ⟨m, s2, t2⟩ := q2
    intro k' h3 x3 w3
    refine k' h3 ?_ w3
    rw [← List.append_assoc]
    exact x3
theorem PM.tn {c ro : Int} {f : GF} (z : kd i ≠ c) (k : PM h0 q kd va N dp C O R w K (bnd (tk kd c ro i) f)) : PM h0 q kd va N dp C O R w K (.inl i) := by
  unfold tk at k
  rw [if_neg z] at k
  exact k
theorem PM.fy {c ro : Int} (z : kd i = c) (k : PM h0 q kd va N dp C O R w K (tk kd c ro i)) : PM h0 q kd va N dp C O (R ++ [ro]) w K (.inr (i + 1, [], [])) := by
  unfold tk at k
  rw [if_pos z] at k
  intro h2 x2 w2
  refine k h2 ?_ w2
  rw [List.append_nil (R ++ [ro])] at x2
  exact x2
theorem PM.fn {c ro : Int} (z : kd i ≠ c) (k : PM h0 q kd va N dp C O R w K (tk kd c ro i)) : PM h0 q kd va N dp C O R w K (.inl i) := by
  unfold tk at k
  rw [if_neg z] at k
  exact k
theorem PM.ok (x : XM h0 q kd va N h i dp C O R) (ww : WW C O i w) (k : PM h0 q kd va N dp C O R w K (.inr (i, [], []))) : K 0 1 h := by
  refine k h ?_ ?_
  · show XM h0 q kd va N h i dp (C ++ []) (O ++ []) (R ++ [])
    rw [List.append_nil, List.append_nil, List.append_nil]
    exact x
  · show WW (C ++ []) (O ++ []) i w
    rw [List.append_nil, List.append_nil]
    exact ww
/-- an operation that has no name, written -/
def plain (o : Op) : Prop := o.1 ≠ 11 ∧ o.1 ≠ 1 ∧ ¬ (4 ≤ o.1 ∧ o.1 ≤ 8)
theorem mc_plain {o : Op} (ho : plain o) : mcs va [o] = [mco o.1] := by
  show mc va o ++ [] = _
  unfold mc
  rw [if_neg ho.1, if_neg ho.2.1, if_neg ho.2.2]
  rfl
theorem mo_plain {o : Op} {s : Int} (ho : plain o) : mos va s [o] = [] := by
  show mo s o ++ [] = _
  unfold mo
  rw [if_neg ho.1, if_neg ho.2.2]
  rfl
theorem PM.eo {o : Op} {j : Nat} (ho : plain o) (k : PM h0 q kd va N dp C O R w K (em o j)) : ∀ h2, XM h0 q kd va N h2 j dp (C ++ [mco o.1]) O R → WW (C ++ [mco o.1]) O j w → K 0 1 h2 := by
  intro h2 x ww
  refine k h2 ?_ ?_
  · rw [mc_plain ho, mo_plain ho, List.append_nil, List.append_nil]
    exact x
  · rw [mc_plain ho, mo_plain ho, List.append_nil]
    exact ww
theorem PM.es {o : Op} {j : Nat} {f : GF} (ho : plain o) (k : PM h0 q kd va N dp C O R w K (bnd (em o j) f)) : PM h0 q kd va N dp (C ++ [mco o.1]) O R w K (f j) := by
  have k' : PM h0 q kd va N dp C O R w K (match f j with | .inl k => .inl k | .inr (k, s2, t2) => .inr (k, [o] ++ s2, [] ++ t2)) := k
  revert k'
  cases f j with
  | inl m => exact fun k' => k'
  | inr q2 =>
    obtain ⟨m, s2, t2⟩ := q2
    intro k' h3 x3 w3
    have e1 : C ++ mcs va ([o] ++ s2) = (C ++ [mco o.1]) ++ mcs va s2 := by rw [mcs_app, mc_plain ho, List.append_assoc]
    have e2 : O ++ mos va (C.length : Int) ([o] ++ s2) = O ++ mos va ((C ++ [mco o.1]).length : Int) s2 := by
      rw [mos_app, mc_plain ho, mo_plain ho, List.nil_append, List.length_append]
      rfl
    refine k' h3 ?_ ?_
    · rw [e1, e2]
      exact x3
    · rw [e1, e2]
      exact w3
end
