/-! ===== the class's checker: names at 31, 32, 33, meanings at 34 ===== -/
def GK (h : AH) (dq : Int) (ro va : Nat → Int) (E : Nat) : Prop := (am_t h 30 = 1) ∧ (am_m h 30 1 = 22) ∧ (am_m h 30 2 = 27) ∧ (am_m h 30 3 = 31) ∧ (am_m h 30 4 = 32) ∧ (am_m h 30 5 = 33) ∧ (am_m h 30 6 = 34) ∧ (am_t h 22 = 5) ∧ (am_m h 22 1 = 24) ∧ (am_t h 24 = 22) ∧ (am_l h 24 = 401) ∧ (am_t h 27 = 2) ∧ (am_m h 27 0 = 28) ∧ (am_t h 28 = 20) ∧ (am_l h 28 = 401) ∧ (am_m h 27 1 = 29) ∧ (am_t h 29 = 20) ∧ (am_l h 29 = 401) ∧ (am_m h 27 2 = (E : Int)) ∧ (am_t h 31 = 22) ∧ (am_l h 31 = 4) ∧ (am_t h 32 = 22) ∧ (am_l h 32 = 12) ∧ (am_t h 33 = 22) ∧ (am_l h 33 = 12) ∧ (am_t h 34 = 20) ∧ (am_l h 34 = 401) ∧ (P4 h dq) ∧ (dq = 2 ∨ dq = 12) ∧ (53 ≤ am_n h) ∧ (E ≤ 400) ∧ (∀ k : Nat, k < E → am_m h 24 (k : Int) = va k) ∧ (∀ k : Nat, k < E → am_m h 28 (k : Int) = ro k)
theorem GK.t {h : AH} {dq : Int} {ro va : Nat → Int} {E : Nat} (x : GK h dq ro va E) : am_t h 30 = 1 := x.1
theorem GK.f1 {h : AH} {dq : Int} {ro va : Nat → Int} {E : Nat} (x : GK h dq ro va E) : am_m h 30 1 = 22 := x.2.1
theorem GK.f2 {h : AH} {dq : Int} {ro va : Nat → Int} {E : Nat} (x : GK h dq ro va E) : am_m h 30 2 = 27 := x.2.2.1
theorem GK.f3 {h : AH} {dq : Int} {ro va : Nat → Int} {E : Nat} (x : GK h dq ro va E) : am_m h 30 3 = 31 := x.2.2.2.1
theorem GK.f4 {h : AH} {dq : Int} {ro va : Nat → Int} {E : Nat} (x : GK h dq ro va E) : am_m h 30 4 = 32 := x.2.2.2.2.1
theorem GK.f5 {h : AH} {dq : Int} {ro va : Nat → Int} {E : Nat} (x : GK h dq ro va E) : am_m h 30 5 = 33 := x.2.2.2.2.2.1
theorem GK.f6 {h : AH} {dq : Int} {ro va : Nat → Int} {E : Nat} (x : GK h dq ro va E) : am_m h 30 6 = 34 := x.2.2.2.2.2.2.1
theorem GK.t22 {h : AH} {dq : Int} {ro va : Nat → Int} {E : Nat} (x : GK h dq ro va E) : am_t h 22 = 5 := x.2.2.2.2.2.2.2.1
theorem GK.g1 {h : AH} {dq : Int} {ro va : Nat → Int} {E : Nat} (x : GK h dq ro va E) : am_m h 22 1 = 24 := x.2.2.2.2.2.2.2.2.1
theorem GK.t24 {h : AH} {dq : Int} {ro va : Nat → Int} {E : Nat} (x : GK h dq ro va E) : am_t h 24 = 22 := x.2.2.2.2.2.2.2.2.2.1
theorem GK.l24 {h : AH} {dq : Int} {ro va : Nat → Int} {E : Nat} (x : GK h dq ro va E) : am_l h 24 = 401 := x.2.2.2.2.2.2.2.2.2.2.1
theorem GK.t27 {h : AH} {dq : Int} {ro va : Nat → Int} {E : Nat} (x : GK h dq ro va E) : am_t h 27 = 2 := x.2.2.2.2.2.2.2.2.2.2.2.1
theorem GK.g0 {h : AH} {dq : Int} {ro va : Nat → Int} {E : Nat} (x : GK h dq ro va E) : am_m h 27 0 = 28 := x.2.2.2.2.2.2.2.2.2.2.2.2.1
theorem GK.t28 {h : AH} {dq : Int} {ro va : Nat → Int} {E : Nat} (x : GK h dq ro va E) : am_t h 28 = 20 := x.2.2.2.2.2.2.2.2.2.2.2.2.2.1
theorem GK.l28 {h : AH} {dq : Int} {ro va : Nat → Int} {E : Nat} (x : GK h dq ro va E) : am_l h 28 = 401 := x.2.2.2.2.2.2.2.2.2.2.2.2.2.2.1
theorem GK.ge {h : AH} {dq : Int} {ro va : Nat → Int} {E : Nat} (x : GK h dq ro va E) : am_m h 27 1 = 29 := x.2.2.2.2.2.2.2.2.2.2.2.2.2.2.2.1
theorem GK.t29 {h : AH} {dq : Int} {ro va : Nat → Int} {E : Nat} (x : GK h dq ro va E) : am_t h 29 = 20 := x.2.2.2.2.2.2.2.2.2.2.2.2.2.2.2.2.1
theorem GK.l29 {h : AH} {dq : Int} {ro va : Nat → Int} {E : Nat} (x : GK h dq ro va E) : am_l h 29 = 401 := x.2.2.2.2.2.2.2.2.2.2.2.2.2.2.2.2.2.1
theorem GK.ga {h : AH} {dq : Int} {ro va : Nat → Int} {E : Nat} (x : GK h dq ro va E) : am_m h 27 2 = (E : Int) := x.2.2.2.2.2.2.2.2.2.2.2.2.2.2.2.2.2.2.1
theorem GK.t31 {h : AH} {dq : Int} {ro va : Nat → Int} {E : Nat} (x : GK h dq ro va E) : am_t h 31 = 22 := x.2.2.2.2.2.2.2.2.2.2.2.2.2.2.2.2.2.2.2.1
theorem GK.l31 {h : AH} {dq : Int} {ro va : Nat → Int} {E : Nat} (x : GK h dq ro va E) : am_l h 31 = 4 := x.2.2.2.2.2.2.2.2.2.2.2.2.2.2.2.2.2.2.2.2.1
theorem GK.t32 {h : AH} {dq : Int} {ro va : Nat → Int} {E : Nat} (x : GK h dq ro va E) : am_t h 32 = 22 := x.2.2.2.2.2.2.2.2.2.2.2.2.2.2.2.2.2.2.2.2.2.1
theorem GK.l32 {h : AH} {dq : Int} {ro va : Nat → Int} {E : Nat} (x : GK h dq ro va E) : am_l h 32 = 12 := x.2.2.2.2.2.2.2.2.2.2.2.2.2.2.2.2.2.2.2.2.2.2.1
theorem GK.t33 {h : AH} {dq : Int} {ro va : Nat → Int} {E : Nat} (x : GK h dq ro va E) : am_t h 33 = 22 := x.2.2.2.2.2.2.2.2.2.2.2.2.2.2.2.2.2.2.2.2.2.2.2.1
theorem GK.l33 {h : AH} {dq : Int} {ro va : Nat → Int} {E : Nat} (x : GK h dq ro va E) : am_l h 33 = 12 := x.2.2.2.2.2.2.2.2.2.2.2.2.2.2.2.2.2.2.2.2.2.2.2.2.1
theorem GK.t34 {h : AH} {dq : Int} {ro va : Nat → Int} {E : Nat} (x : GK h dq ro va E) : am_t h 34 = 20 := x.2.2.2.2.2.2.2.2.2.2.2.2.2.2.2.2.2.2.2.2.2.2.2.2.2.1
theorem GK.l34 {h : AH} {dq : Int} {ro va : Nat → Int} {E : Nat} (x : GK h dq ro va E) : am_l h 34 = 401 := x.2.2.2.2.2.2.2.2.2.2.2.2.2.2.2.2.2.2.2.2.2.2.2.2.2.2.1
theorem GK.p {h : AH} {dq : Int} {ro va : Nat → Int} {E : Nat} (x : GK h dq ro va E) : P4 h dq := x.2.2.2.2.2.2.2.2.2.2.2.2.2.2.2.2.2.2.2.2.2.2.2.2.2.2.2.1
theorem GK.qd {h : AH} {dq : Int} {ro va : Nat → Int} {E : Nat} (x : GK h dq ro va E) : dq = 2 ∨ dq = 12 := x.2.2.2.2.2.2.2.2.2.2.2.2.2.2.2.2.2.2.2.2.2.2.2.2.2.2.2.2.1
theorem GK.n {h : AH} {dq : Int} {ro va : Nat → Int} {E : Nat} (x : GK h dq ro va E) : 53 ≤ am_n h := x.2.2.2.2.2.2.2.2.2.2.2.2.2.2.2.2.2.2.2.2.2.2.2.2.2.2.2.2.2.1
theorem GK.E4 {h : AH} {dq : Int} {ro va : Nat → Int} {E : Nat} (x : GK h dq ro va E) : E ≤ 400 := x.2.2.2.2.2.2.2.2.2.2.2.2.2.2.2.2.2.2.2.2.2.2.2.2.2.2.2.2.2.2.1
theorem GK.va {h : AH} {dq : Int} {ro va : Nat → Int} {E : Nat} (x : GK h dq ro va E) : ∀ k : Nat, k < E → am_m h 24 (k : Int) = va k := x.2.2.2.2.2.2.2.2.2.2.2.2.2.2.2.2.2.2.2.2.2.2.2.2.2.2.2.2.2.2.2.1
theorem GK.ro {h : AH} {dq : Int} {ro va : Nat → Int} {E : Nat} (x : GK h dq ro va E) : ∀ k : Nat, k < E → am_m h 28 (k : Int) = ro k := x.2.2.2.2.2.2.2.2.2.2.2.2.2.2.2.2.2.2.2.2.2.2.2.2.2.2.2.2.2.2.2.2
def FK (h0 h : AH) (dq : Int) : Prop := Fr 0 53 h0 h ∧ ∀ b j, ¬ (b = 30 ∧ j = 0) → ¬ (31 ≤ b ∧ b ≤ 34) → ¬ (b = dq ∧ 0 ≤ j ∧ j ≤ 4) → ¬ (dq + 1 ≤ b ∧ b ≤ dq + 7) → b < am_n h0 → am_m h b j = am_m h0 b j
theorem FK.rf {h : AH} {dq : Int} : FK h h dq := ⟨Fr.rf, fun _ _ _ _ _ _ _ => rfl⟩
theorem FK.w {h0 h : AH} {dq b i v : Int} (x : FK h0 h dq) (hq : dq = 2 ∨ dq = 12) (hb : (b = 30 ∧ i = 0) ∨ (31 ≤ b ∧ b ≤ 34) ∨ (b = dq ∧ 0 ≤ i ∧ i ≤ 4) ∨ (dq + 1 ≤ b ∧ b ≤ dq + 7)) : FK h0 (am_w h b i v) dq := by
  refine ⟨x.1.w (by omega) (by omega), fun c j z1 z2 z3 z4 z5 => ?_⟩
  rw [am_m_w, if_neg (by omega)]
  exact x.2 c j z1 z2 z3 z4 z5
def RD (as off : Int) (b : Nat) : Prop := (as = 5 ∧ off = 1 ∧ b = 4) ∨ (as = 6 ∧ off = 3 ∧ b = 9) ∨ (as = 9 ∧ off = 2 ∧ b = 5) ∨ (as = 7 ∧ off = 4 ∧ b = 6) ∨ (as = 11 ∧ off = 6 ∧ b = 7)
def NB (dq as b : Int) : Prop := (as = 1 ∧ b = 31) ∨ (as = 2 ∧ b = 32) ∨ (as = 3 ∧ b = 33) ∨ (as = 4 ∧ b = dq + 7)
def NC (as c : Int) : Prop := (as = 1 ∧ c = 0) ∨ (as = 2 ∧ c = 1) ∨ (as = 3 ∧ c = 2) ∨ (as = 4 ∧ c = 3)
def vv (h0 : AH) (va : Nat → Int) (as : Int) (k : Nat) : Int := if as = 4 then am_m h0 29 (k : Int) else va k
def CK (h0 : AH) (dq : Int) (ro va : Nat → Int) (E : Nat) (h : AH) (j : Nat) (f : TT) : Prop := GK h0 dq ro va E ∧ FK h0 h dq ∧ (∀ as c, NC as c → am_m h dq c = (cn ro as j : Int)) ∧ am_m h dq 4 = f 8 0 ∧ (∀ as b, NB dq as b → RW (fun i => am_m h b i) 0 ((nl ro as j).map (vv h0 va as))) ∧ (∀ as off b, RD as off b → ∀ i : Nat, i < cn ro as j → am_m h (dq + off) (i : Int) = f b (i : Int)) ∧ (∀ p : Nat, p < cn ro 2 j → (0 ≤ am_m h (dq + 5) (p : Int) ∧ am_m h (dq + 5) (p : Int) < 4096) ∧ ∀ v, 0 ≤ v → v < 12 → am_and (am_shr (am_m h (dq + 5) (p : Int)) v) 1 = f 10 (12 * v + (p : Int))) ∧ ∀ k : Nat, k < j → am_m h 34 (k : Int) = f 11 (k : Int)
theorem cnE {ro : Nat → Int} {as : Int} {j : Nat} (h : ro j ≠ as) : cn ro as (j + 1) = cn ro as j := by
  show cn ro as j + (if ro j = as then 1 else 0) = _
  rw [if_neg h]
  rfl
theorem cnS {ro : Nat → Int} {as : Int} {j : Nat} (h : ro j = as) : cn ro as (j + 1) = cn ro as j + 1 := by
  show cn ro as j + (if ro j = as then 1 else 0) = _
  rw [if_pos h]
theorem nlE {ro : Nat → Int} {as : Int} {j : Nat} (h : ro j ≠ as) : nl ro as (j + 1) = nl ro as j := by
  show nl ro as j ++ (if ro j = as then [j] else []) = _
  rw [if_neg h, List.append_nil]
theorem nlS {ro : Nat → Int} {as : Int} {j : Nat} (h : ro j = as) : nl ro as (j + 1) = nl ro as j ++ [j] := by
  show nl ro as j ++ (if ro j = as then [j] else []) = _
  rw [if_pos h]
section
variable {d D : Nat} {h0 h : AH} {dq : Int} {ro va kd : Nat → Int} {E j : Nat} {f : TT} {K : AK}
theorem CK.g (x : CK h0 dq ro va E h j f) : GK h0 dq ro va E := x.1
theorem CK.fk (x : CK h0 dq ro va E h j f) : FK h0 h dq := x.2.1
theorem CK.cs (x : CK h0 dq ro va E h j f) : ∀ as c, NC as c → am_m h dq c = (cn ro as j : Int) := x.2.2.1
theorem CK.bg (x : CK h0 dq ro va E h j f) : am_m h dq 4 = f 8 0 := x.2.2.2.1
theorem CK.nb (x : CK h0 dq ro va E h j f) : ∀ as b, NB dq as b → RW (fun i => am_m h b i) 0 ((nl ro as j).map (vv h0 va as)) := x.2.2.2.2.1
theorem CK.rd (x : CK h0 dq ro va E h j f) : ∀ as off b, RD as off b → ∀ i : Nat, i < cn ro as j → am_m h (dq + off) (i : Int) = f b (i : Int) := x.2.2.2.2.2.1
theorem CK.fn (x : CK h0 dq ro va E h j f) : ∀ p : Nat, p < cn ro 2 j → (0 ≤ am_m h (dq + 5) (p : Int) ∧ am_m h (dq + 5) (p : Int) < 4096) ∧ ∀ v, 0 ≤ v → v < 12 → am_and (am_shr (am_m h (dq + 5) (p : Int)) v) 1 = f 10 (12 * v + (p : Int)) := x.2.2.2.2.2.2.1
theorem CK.mn (x : CK h0 dq ro va E h j f) : ∀ k : Nat, k < j → am_m h 34 (k : Int) = f 11 (k : Int) := x.2.2.2.2.2.2.2
theorem CK.tg (x : CK h0 dq ro va E h j f) {b : Int} (hb : b < 53) : am_t h b = am_t h0 b := (x.fk.1.2.2.2.1 b (by have := x.g.n; omega)).1
theorem CK.lg (x : CK h0 dq ro va E h j f) {b : Int} (hb : b < 53) : am_l h b = am_l h0 b := (x.fk.1.2.2.2.1 b (by have := x.g.n; omega)).2
theorem CK.mg (x : CK h0 dq ro va E h j f) {b i : Int} (hb : b < 53) (z1 : ¬ (b = 30 ∧ i = 0)) (z2 : ¬ (31 ≤ b ∧ b ≤ 34)) (z3 : ¬ (b = dq ∧ 0 ≤ i ∧ i ≤ 4)) (z4 : ¬ (dq + 1 ≤ b ∧ b ≤ dq + 7)) : am_m h b i = am_m h0 b i := x.fk.2 b i z1 z2 z3 z4 (by have := x.g.n; omega)
theorem CK.t (x : CK h0 dq ro va E h j f) : am_t h 30 = 1 := (x.tg (by decide)).trans x.g.t
theorem CK.f1 (x : CK h0 dq ro va E h j f) : am_m h 30 1 = 22 := (have hq := x.g.qd; x.mg (by decide) (by decide) (by decide) (by omega) (by omega)).trans x.g.f1
theorem CK.f2 (x : CK h0 dq ro va E h j f) : am_m h 30 2 = 27 := (have hq := x.g.qd; x.mg (by decide) (by decide) (by decide) (by omega) (by omega)).trans x.g.f2
theorem CK.f3 (x : CK h0 dq ro va E h j f) : am_m h 30 3 = 31 := (have hq := x.g.qd; x.mg (by decide) (by decide) (by decide) (by omega) (by omega)).trans x.g.f3
theorem CK.f4 (x : CK h0 dq ro va E h j f) : am_m h 30 4 = 32 := (have hq := x.g.qd; x.mg (by decide) (by decide) (by decide) (by omega) (by omega)).trans x.g.f4
theorem CK.f5 (x : CK h0 dq ro va E h j f) : am_m h 30 5 = 33 := (have hq := x.g.qd; x.mg (by decide) (by decide) (by decide) (by omega) (by omega)).trans x.g.f5
theorem CK.f6 (x : CK h0 dq ro va E h j f) : am_m h 30 6 = 34 := (have hq := x.g.qd; x.mg (by decide) (by decide) (by decide) (by omega) (by omega)).trans x.g.f6
theorem CK.t22 (x : CK h0 dq ro va E h j f) : am_t h 22 = 5 := (x.tg (by decide)).trans x.g.t22
theorem CK.g1 (x : CK h0 dq ro va E h j f) : am_m h 22 1 = 24 := (have hq := x.g.qd; x.mg (by decide) (by decide) (by decide) (by omega) (by omega)).trans x.g.g1
theorem CK.t24 (x : CK h0 dq ro va E h j f) : am_t h 24 = 22 := (x.tg (by decide)).trans x.g.t24
theorem CK.l24 (x : CK h0 dq ro va E h j f) : am_l h 24 = 401 := (x.lg (by decide)).trans x.g.l24
theorem CK.t27 (x : CK h0 dq ro va E h j f) : am_t h 27 = 2 := (x.tg (by decide)).trans x.g.t27
theorem CK.g0 (x : CK h0 dq ro va E h j f) : am_m h 27 0 = 28 := (have hq := x.g.qd; x.mg (by decide) (by decide) (by decide) (by omega) (by omega)).trans x.g.g0
theorem CK.t28 (x : CK h0 dq ro va E h j f) : am_t h 28 = 20 := (x.tg (by decide)).trans x.g.t28
theorem CK.l28 (x : CK h0 dq ro va E h j f) : am_l h 28 = 401 := (x.lg (by decide)).trans x.g.l28
theorem CK.ge (x : CK h0 dq ro va E h j f) : am_m h 27 1 = 29 := (have hq := x.g.qd; x.mg (by decide) (by decide) (by decide) (by omega) (by omega)).trans x.g.ge
theorem CK.t29 (x : CK h0 dq ro va E h j f) : am_t h 29 = 20 := (x.tg (by decide)).trans x.g.t29
theorem CK.l29 (x : CK h0 dq ro va E h j f) : am_l h 29 = 401 := (x.lg (by decide)).trans x.g.l29
theorem CK.ga (x : CK h0 dq ro va E h j f) : am_m h 27 2 = (E : Int) := (have hq := x.g.qd; x.mg (by decide) (by decide) (by decide) (by omega) (by omega)).trans x.g.ga
theorem CK.t31 (x : CK h0 dq ro va E h j f) : am_t h 31 = 22 := (x.tg (by decide)).trans x.g.t31
theorem CK.l31 (x : CK h0 dq ro va E h j f) : am_l h 31 = 4 := (x.lg (by decide)).trans x.g.l31
theorem CK.t32 (x : CK h0 dq ro va E h j f) : am_t h 32 = 22 := (x.tg (by decide)).trans x.g.t32
theorem CK.l32 (x : CK h0 dq ro va E h j f) : am_l h 32 = 12 := (x.lg (by decide)).trans x.g.l32
theorem CK.t33 (x : CK h0 dq ro va E h j f) : am_t h 33 = 22 := (x.tg (by decide)).trans x.g.t33
theorem CK.l33 (x : CK h0 dq ro va E h j f) : am_l h 33 = 12 := (x.lg (by decide)).trans x.g.l33
theorem CK.t34 (x : CK h0 dq ro va E h j f) : am_t h 34 = 20 := (x.tg (by decide)).trans x.g.t34
theorem CK.l34 (x : CK h0 dq ro va E h j f) : am_l h 34 = 401 := (x.lg (by decide)).trans x.g.l34
theorem CK.vj (x : CK h0 dq ro va E h j f) {k : Nat} (hk : k < E) : am_m h 24 (k : Int) = va k := (have hq := x.g.qd; x.mg (by decide) (by omega) (by decide) (by omega) (by omega)).trans (x.g.va k hk)
theorem CK.rj (x : CK h0 dq ro va E h j f) {k : Nat} (hk : k < E) : am_m h 28 (k : Int) = ro k := (have hq := x.g.qd; x.mg (by decide) (by omega) (by decide) (by omega) (by omega)).trans (x.g.ro k hk)
theorem CK.e29 (x : CK h0 dq ro va E h j f) {k : Int} : am_m h 29 k = am_m h0 29 k := have hq := x.g.qd; x.mg (by decide) (by omega) (by decide) (by omega) (by omega)
theorem CK.p4 (x : CK h0 dq ro va E h j f) : am_t h dq = 4 ∧ (am_m h dq 6 = dq + 1 ∧ am_t h (dq + 1) = 20 ∧ am_l h (dq + 1) = 4) ∧ (am_m h dq 7 = dq + 2 ∧ am_t h (dq + 2) = 20 ∧ am_l h (dq + 2) = 12) ∧ (am_m h dq 8 = dq + 3 ∧ am_t h (dq + 3) = 20 ∧ am_l h (dq + 3) = 12) ∧ (am_m h dq 9 = dq + 4 ∧ am_t h (dq + 4) = 20 ∧ am_l h (dq + 4) = 12) ∧ (am_m h dq 10 = dq + 5 ∧ am_t h (dq + 5) = 20 ∧ am_l h (dq + 5) = 12) ∧ (am_m h dq 11 = dq + 6 ∧ am_t h (dq + 6) = 20 ∧ am_l h (dq + 6) = 12) ∧ am_m h dq 12 = dq + 7 ∧ am_t h (dq + 7) = 20 ∧ am_l h (dq + 7) = 12 := by
  have hq := x.g.qd
  have p := x.g.p
  have e : ∀ i, 5 < i → am_m h dq i = am_m h0 dq i := fun i hi => x.mg (by omega) (by omega) (by omega) (by omega) (by omega)
  exact ⟨(x.tg (by omega)).trans p.t, ⟨(e _ (by decide)).trans p.f6, (x.tg (by omega)).trans p.t1, (x.lg (by omega)).trans p.l1⟩, ⟨(e _ (by decide)).trans p.f7, (x.tg (by omega)).trans p.t2, (x.lg (by omega)).trans p.l2⟩, ⟨(e _ (by decide)).trans p.f8, (x.tg (by omega)).trans p.t3, (x.lg (by omega)).trans p.l3⟩, ⟨(e _ (by decide)).trans p.f9, (x.tg (by omega)).trans p.t4, (x.lg (by omega)).trans p.l4⟩, ⟨(e _ (by decide)).trans p.f10, (x.tg (by omega)).trans p.t5, (x.lg (by omega)).trans p.l5⟩, ⟨(e _ (by decide)).trans p.f11, (x.tg (by omega)).trans p.t6, (x.lg (by omega)).trans p.l6⟩, (e _ (by decide)).trans p.f12, (x.tg (by omega)).trans p.t7, (x.lg (by omega)).trans p.l7⟩
/-- the meaning of a token not yet looked at is written -/
theorem CK.m0 (x : CK h0 dq ro va E h j f) {v : Int} : CK h0 dq ro va E (am_w h 34 (j : Int) v) j f := by
  have hq := x.g.qd
  have e : ∀ b i, b ≠ 34 → am_m (am_w h 34 (j : Int) v) b i = am_m h b i := fun b i z => by rw [am_m_w, if_neg (fun y => z y.1)]
  exact ⟨x.g, x.fk.w hq (Or.inr (Or.inl (by decide))), fun as c hc => (e _ _ (by omega)).trans (x.cs as c hc), (e _ _ (by omega)).trans x.bg, fun as b hb => RW.cg (fun i _ _ => e _ _ (by unfold NB at hb; omega)) (x.nb as b hb), fun as off b hr i hi => (e _ _ (by unfold RD at hr; omega)).trans (x.rd as off b hr i hi), fun p hp => by rw [e _ _ (by omega)]; exact x.fn p hp, fun k hk => by rw [am_m_w, if_neg (by omega)]; exact x.mn k hk⟩
/-- the place moves on -/
theorem CK.at (x : CK h0 dq ro va E h j f) {v : Int} : CK h0 dq ro va E (am_w h 30 0 v) j f := by
  have hq := x.g.qd
  have e : ∀ b i, b ≠ 30 → am_m (am_w h 30 0 v) b i = am_m h b i := fun b i z => by rw [am_m_w, if_neg (fun y => z y.1)]
  exact ⟨x.g, x.fk.w hq (Or.inl ⟨rfl, rfl⟩), fun as c hc => (e _ _ (by omega)).trans (x.cs as c hc), (e _ _ (by omega)).trans x.bg, fun as b hb => RW.cg (fun i _ _ => e _ _ (by unfold NB at hb; omega)) (x.nb as b hb), fun as off b hr i hi => (e _ _ (by unfold RD at hr; omega)).trans (x.rd as off b hr i hi), fun p hp => by rw [e _ _ (by omega)]; exact x.fn p hp, fun k hk => (e _ _ (by decide)).trans (x.mn k hk)⟩
/-- a token that changes no count but that of its own role -/
theorem CK.row {as off v : Int} {b : Nat} (hr : RD as off b) (x : CK h0 dq ro va E h j f) (z : am_m h 34 (j : Int) = 0) (fz : f 11 (j : Int) = 0) (er : ro j = as) : CK h0 dq ro va E (am_w h (dq + off) (cn ro as j : Int) v) (j + 1) (su f b (cn ro as j : Int) v) := by
  have hq := x.g.qd
  have hr' := hr
  unfold RD at hr
  have e : ∀ c i, c ≠ dq + off → am_m (am_w h (dq + off) (cn ro as j : Int) v) c i = am_m h c i := fun c i z => by rw [am_m_w, if_neg (fun y => z y.1)]
  have sn : ∀ (c : Nat) i, c ≠ b → su f b (cn ro as j : Int) v c i = f c i := fun c i z => su_ne (fun y => z y.1)
  refine ⟨x.g, x.fk.w hq (by omega), fun a c hc => ?_, ?_, fun a c hb => ?_, fun a o c hc i hi => ?_, fun p hp => ?_, fun k hk => ?_⟩
  · rw [e _ _ (by omega), cnE (by unfold NC at hc; omega)]
    exact x.cs a c hc
  · rw [e _ _ (by omega), sn _ _ (by omega)]
    exact x.bg
  · rw [nlE (by unfold NB at hb; omega)]
    exact RW.cg (fun i _ _ => e _ _ (by unfold NB at hb; omega)) (x.nb a c hb)
  · by_cases y : a = as
    · subst y
      have eo : o = off ∧ c = b := by
        unfold RD at hc
        omega
      obtain ⟨eo1, eo2⟩ := eo
      subst eo1
      subst eo2
      rw [cnS er] at hi
      by_cases yi : i = cn ro a j
      · rw [yi, am_m_w, if_pos ⟨rfl, rfl⟩, su_eq]
      · rw [am_m_w, if_neg (by omega), su_ne (by omega)]
        exact x.rd a o c hc i (by omega)
    · rw [cnE (by omega)] at hi
      rw [e _ _ (by unfold RD at hc; omega), sn _ _ (by unfold RD at hc; omega)]
      exact x.rd a o c hc i hi
  · rw [cnE (by omega)] at hp
    rw [e _ _ (by omega)]
    refine ⟨(x.fn p hp).1, fun v' h0 h1 => ?_⟩
    rw [sn _ _ (by omega)]
    exact (x.fn p hp).2 v' h0 h1
  · rw [e _ _ (by omega), sn _ _ (by omega)]
    by_cases y : k = j
    · rw [y, z, fz]
    · exact x.mn k (by omega)
/-- nothing comes of a token but its meaning -/
theorem CK.nx (x : CK h0 dq ro va E h j f) {f2 : TT} (hf : ∀ c i, c ≠ 11 → c ≠ 8 → f2 c i = f c i) (h8 : am_m h dq 4 = f2 8 0) (z : am_m h 34 (j : Int) = f2 11 (j : Int)) (hz : ∀ k : Nat, k < j → f2 11 (k : Int) = f 11 (k : Int)) (er : ro j = 0 ∨ ro j = 8 ∨ 12 ≤ ro j) : CK h0 dq ro va E h (j + 1) f2 := by
  refine ⟨x.g, x.fk, fun a c hc => ?_, h8, fun a c hb => ?_, fun a o c hc i hi => ?_, fun p hp => ?_, fun k hk => ?_⟩
  · rw [cnE (by unfold NC at hc; omega)]
    exact x.cs a c hc
  · rw [nlE (by unfold NB at hb; omega)]
    exact x.nb a c hb
  · rw [cnE (by unfold RD at hc; omega)] at hi
    rw [hf _ _ (by unfold RD at hc; omega) (by unfold RD at hc; omega)]
    exact x.rd a o c hc i hi
  · rw [cnE (by omega)] at hp
    refine ⟨(x.fn p hp).1, fun v' h0 h1 => ?_⟩
    rw [hf _ _ (by decide) (by decide)]
    exact (x.fn p hp).2 v' h0 h1
  · by_cases y : k = j
    · rw [y, z]
    · rw [hz k (by omega)]
      exact x.mn k (by omega)
/-- the budget is written -/
theorem CK.w4 (x : CK h0 dq ro va E h j f) {v : Int} : CK h0 dq ro va E (am_w h dq 4 v) j (su f 8 0 v) := by
  have hq := x.g.qd
  have e : ∀ b i, ¬ (b = dq ∧ i = 4) → am_m (am_w h dq 4 v) b i = am_m h b i := fun b i z => by rw [am_m_w, if_neg z]
  have sn : ∀ (c : Nat) i, c ≠ 8 → su f 8 0 v c i = f c i := fun c i z => su_ne (fun y => z y.1)
  refine ⟨x.g, x.fk.w hq (by omega), fun as c hc => (e _ _ (by unfold NC at hc; omega)).trans (x.cs as c hc), by rw [am_m_w, if_pos ⟨rfl, rfl⟩, su_eq], fun as b hb => RW.cg (fun i _ _ => e _ _ (by unfold NB at hb; omega)) (x.nb as b hb), fun as off b hr i hi => ?_, fun p hp => ?_, fun k hk => ?_⟩
  · rw [e _ _ (by unfold RD at hr; omega), sn _ _ (by unfold RD at hr; omega)]
    exact x.rd as off b hr i hi
  · rw [e _ _ (by omega)]
    refine ⟨(x.fn p hp).1, fun v' h0 h1 => ?_⟩
    rw [sn _ _ (by decide)]
    exact (x.fn p hp).2 v' h0 h1
  · rw [e _ _ (by omega), sn _ _ (by decide)]
    exact x.mn k hk
/-- one more ward, project, voter or ban -/
theorem CK.cnt {as c b : Int} {k : Nat} (hc : NC as c) (hb : NB dq as b) (hk : k < 4) (x : CK h0 dq ro va E h j f) (z : am_m h 34 (j : Int) = 0) (fz : f 11 (j : Int) = 0) (er : ro j = as) (hn : as = 2 → ((0 ≤ am_m h (dq + 5) (cn ro 2 j : Int) ∧ am_m h (dq + 5) (cn ro 2 j : Int) < 4096) ∧ ∀ v, 0 ≤ v → v < 12 → am_and (am_shr (am_m h (dq + 5) (cn ro 2 j : Int)) v) 1 = f 10 (12 * v + (cn ro 2 j : Int)))) {v : Int} : CK h0 dq ro va E (am_w (am_w h b (cn ro as j : Int) (vv h0 va as j)) dq c ((cn ro as j + 1 : Nat) : Int)) (j + 1) (su f k 0 v) := by
  have hq := x.g.qd
  have hc' := hc
  have hb' := hb
  unfold NC at hc
  unfold NB at hb
  have e : ∀ b2 i, b2 ≠ b → ¬ (b2 = dq ∧ i = c) → am_m (am_w (am_w h b (cn ro as j : Int) (vv h0 va as j)) dq c ((cn ro as j + 1 : Nat) : Int)) b2 i = am_m h b2 i := fun b2 i z1 z2 => by rw [am_m_w, if_neg z2, am_m_w, if_neg (fun y => z1 y.1)]
  have sn : ∀ (c : Nat) i, 4 ≤ c → su f k 0 v c i = f c i := fun c i z => su_ne (fun y => by omega)
  refine ⟨x.g, (x.fk.w hq (by omega)).w hq (by omega), fun a c2 hc2 => ?_, ?_, fun a b2 hb2 => ?_, fun a o c2 hc2 i hi => ?_, fun p hp => ?_, fun i hi => ?_⟩
  · unfold NC at hc2
    by_cases y : a = as
    · subst y
      have : c2 = c := by omega
      subst this
      rw [am_m_w, if_pos ⟨rfl, rfl⟩, cnS er]
    · rw [e _ _ (by omega) (by omega), cnE (by omega)]
      exact x.cs a c2 hc2
  · rw [e _ _ (by omega) (by omega), sn _ _ (by decide)]
    exact x.bg
  · by_cases y : a = as
    · subst y
      have : b2 = b := by
        unfold NB at hb2
        omega
      subst this
      rw [nlS er, List.map_append]
      refine RW.snoc (RW.cg (fun i z1 z2 => ?_) (x.nb a b2 hb2)) ?_
      · rw [List.length_map, nl_len] at z2
        show am_m _ _ _ = _
        rw [am_m_w, if_neg (by omega), am_m_w, if_neg (by omega)]
      · rw [List.length_map, nl_len]
        show am_m _ _ _ = _
        rw [am_m_w, if_neg (by omega), am_m_w, if_pos ⟨rfl, by omega⟩]
    · rw [nlE (by omega)]
      exact RW.cg (fun i _ _ => e _ _ (by unfold NB at hb2; omega) (by unfold NB at hb2; omega)) (x.nb a b2 hb2)
  · rw [cnE (by unfold RD at hc2; omega)] at hi
    rw [e _ _ (by unfold RD at hc2; omega) (by unfold RD at hc2; omega), sn _ _ (by unfold RD at hc2; omega)]
    exact x.rd a o c2 hc2 i hi
  · rw [e _ _ (by omega) (by omega)]
    by_cases y : as = 2
    · have er2 : ro j = 2 := by omega
      rw [cnS er2] at hp
      have fn : (0 ≤ am_m h (dq + 5) (p : Int) ∧ am_m h (dq + 5) (p : Int) < 4096) ∧ ∀ v, 0 ≤ v → v < 12 → am_and (am_shr (am_m h (dq + 5) (p : Int)) v) 1 = f 10 (12 * v + (p : Int)) := by
        by_cases yp : p = cn ro 2 j
        · rw [yp]
          exact hn y
        · exact x.fn p (by omega)
      refine ⟨fn.1, fun v' h0 h1 => ?_⟩
      rw [sn _ _ (by decide)]
      exact fn.2 v' h0 h1
    · rw [cnE (by omega)] at hp
      refine ⟨(x.fn p hp).1, fun v' h0 h1 => ?_⟩
      rw [sn _ _ (by decide)]
      exact (x.fn p hp).2 v' h0 h1
  · rw [e _ _ (by omega) (by omega), sn _ _ (by decide)]
    by_cases y : i = j
    · rw [y, z, fz]
    · exact x.mn i (by omega)
/-- a row of fans is written -/
theorem CK.w5 (x : CK h0 dq ro va E h j f) {p : Nat} {y x1 v : Int} (v0 : 0 ≤ v ∧ v < 12) (p1 : p < 12) (yr : 0 ≤ y ∧ y < 4096) (hy : ∀ m, 0 ≤ m → m < 12 → am_and (am_shr y m) 1 = if m = v then x1 else am_and (am_shr (am_m h (dq + 5) (p : Int)) m) 1) (er : ro j = 10) (z : am_m h 34 (j : Int) = 0) (fz : f 11 (j : Int) = 0) (hc : cn ro 2 j ≤ 12) : CK h0 dq ro va E (am_w h (dq + 5) (p : Int) y) (j + 1) (su f 10 (12 * v + (p : Int)) x1) := by
  have hq := x.g.qd
  have e : ∀ b i, b ≠ dq + 5 → am_m (am_w h (dq + 5) (p : Int) y) b i = am_m h b i := fun b i z => by rw [am_m_w, if_neg (fun y => z y.1)]
  have sn : ∀ (c : Nat) i, c ≠ 10 → su f 10 (12 * v + (p : Int)) x1 c i = f c i := fun c i z => su_ne (fun y => z y.1)
  refine ⟨x.g, x.fk.w hq (by omega), fun as c hc => ?_, (e _ _ (by omega)).trans (x.bg.trans (sn _ _ (by decide)).symm), fun as b hb => ?_, fun as off b hr i hi => ?_, fun p2 hp => ?_, fun k hk => ?_⟩
  · rw [e _ _ (by omega), cnE (by unfold NC at hc; omega)]
    exact x.cs as c hc
  · rw [nlE (by unfold NB at hb; omega)]
    exact RW.cg (fun i _ _ => e _ _ (by unfold NB at hb; omega)) (x.nb as b hb)
  · rw [cnE (by unfold RD at hr; omega)] at hi
    rw [e _ _ (by unfold RD at hr; omega), sn _ _ (by unfold RD at hr; omega)]
    exact x.rd as off b hr i hi
  · rw [cnE (by omega)] at hp
    have fn := x.fn p2 hp
    by_cases yp : p2 = p
    · subst yp
      rw [am_m_w, if_pos ⟨rfl, rfl⟩]
      refine ⟨yr, fun m h0 h1 => ?_⟩
      rw [hy m h0 h1]
      by_cases ym : m = v
      · subst ym
        rw [if_pos rfl, su_eq]
      · rw [if_neg ym, su_ne (by omega)]
        exact fn.2 m h0 h1
    · rw [am_m_w, if_neg (by omega)]
      refine ⟨fn.1, fun m h0 h1 => ?_⟩
      rw [su_ne (by omega)]
      exact fn.2 m h0 h1
  · rw [e _ _ (by omega), sn _ _ (by decide)]
    by_cases y : k = j
    · rw [y, z, fz]
    · exact x.mn k (by omega)
end
