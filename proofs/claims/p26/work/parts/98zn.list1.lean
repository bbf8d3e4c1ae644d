/-! ===== the law's list: what its cells choose ===== -/
def bl (x n : Int) : Int := (am_and x 2147483647).tmod n
theorem bl_rg {x n : Int} (hn : 0 < n) : 0 ≤ bl x n ∧ bl x n < n := by
  have a := and31 x
  have b := Int.tmod_lt_of_pos (am_and x 2147483647) hn
  have c := Int.tmod_nonneg n a
  unfold bl
  omega
def ceF (L : Nat) (xs : Nat → Int32) (k : Int) : Int := if k < (L : Int) then (xs k.toNat).toInt else w32 (790386105 * (w32 (k + 3)))
theorem t173 {d : Nat} {x n : Int} {h : AH} {K : AK} (hn : ¬ n = 0) (k : K 0 (bl x n) h) : am_call d 173 [(0, x), (0, n)] h K := v173 ⟨hn, k⟩
theorem t174 {d : Nat} {L : Nat} {xs : Nat → Int32} {z k : Int} {h : AH} {N : Int} {K : AK} (x : KX (am_h0 L xs) h N) (hk : 0 ≤ k) (kk : K 0 (ceF L xs k) h) : am_call d 174 [(4, z), (0, k)] h K := by
  have e1 : am_sl h = (L : Int) := x.sl.trans rfl
  have e2 : am_sx h k = (xs k.toNat).toInt := (x.sx k).trans rfl
  unfold ceF at kk
  refine v174 ?_
  rw [e1, e2]
  refine ⟨fun y => ?_, fun y => ?_⟩
  · rw [if_pos y] at kk
    exact ⟨⟨hk, y⟩, kk⟩
  · rw [if_neg y] at kk
    exact kk
def xpF (c : Int → Int) (p : Int) : Int := am_shr (c (5 + p % 3)) (3 * p)
def xvF (c : Int → Int) (v : Int) : Int := am_shr (c (8 + v % 4)) (2 * v + 1)
def xbF (c : Int → Int) (k : Int) : Int := am_shr (c (13 + k % 3)) (3 * k)
def nwF (c : Int → Int) : Int := 1 + bl (c 0) 3
def npF (c : Int → Int) : Int := 1 + bl (c 5) 7
def nvF (c : Int → Int) : Int := 1 + bl (c 8) 7
def nbF (c : Int → Int) : Int := bl (c 13) 6
def hbF (c : Int → Int) : Bool := decide (0 < bl (am_shr (c 0) 4) 4)
def buF (c : Int → Int) : Int := bl (c 4) (if bl (am_shr (c 4) 7) 3 = 0 then 10000 else 300)
/-- the liked ones of a voter, the first n places looked at -/
def LVn (c : Int → Int) (v : Int) : Nat → List Int
  | 0 => []
  | n + 1 => LVn c v n ++ (if ((n : Int) * 5 + v) % 7 < npF c ∧ ¬ am_and (am_shr (xvF c v) (((n : Int) * 5 + v) % 7)) 1 = 0 then [((n : Int) * 5 + v) % 7] else [])
def LVF (c : Int → Int) (v : Int) : List Int := LVn c v (npF c).toNat
def lpF (c : Int → Int) : TT := fun k i =>
  if k = 0 then nwF c else if k = 1 then npF c else if k = 2 then nvF c else if k = 3 then nbF c else
  if k = 4 then bl (c (1 + i)) 5 else if k = 5 then bl (am_shr (xpF c i) 3) (nwF c) else if k = 6 then bl (am_shr (xpF c i) 5) 51 else
  if k = 7 then bl (am_shr (xbF c i) 2) (npF c) else if k = 8 then (if hbF c = true then buF c else 100) else
  if k = 9 then 1 + bl (xpF c i) (if bl (am_shr (xpF c i) 6) 4 = 0 then 999 else 120) else
  if k = 10 then (if (0 ≤ i ∧ i / 12 < nvF c) ∧ i % 12 ∈ LVF c (i / 12) then 1 else 0) else 0
def bbF (c : Int → Int) (k j : Int) : Int := if j = 0 then bl (am_shr (xbF c k) 2) (npF c) else if j = 1 then bl (xbF c k) 8 else if j = 2 then bl (am_shr (xbF c k) 4) 20 else if j = 3 then bl (am_shr (xbF c k) 6) 90 else bl (am_shr (xbF c k) 5) 42
section
variable {c : Int → Int}
theorem LVn_mem {v : Int} : ∀ {n : Nat} {p : Int}, p ∈ LVn c v n → ∃ k : Nat, k < n ∧ p = ((k : Int) * 5 + v) % 7 ∧ p < npF c
  | 0, p, h => by cases h
  | n + 1, p, h => by
    rcases List.mem_append.1 (show p ∈ LVn c v n ++ _ from h) with y | y
    · obtain ⟨k, k1, k2⟩ := LVn_mem y
      exact ⟨k, by omega, k2⟩
    · split at y
      · rename_i z
        rw [List.mem_singleton] at y
        exact ⟨n, by omega, y, by rw [y]; exact z.1⟩
      · cases y
theorem LVn_nd {v : Int} : ∀ {n : Nat}, n ≤ 7 → (LVn c v n).Nodup ∧ (LVn c v n).length ≤ n
  | 0, _ => ⟨List.nodup_nil, Nat.le_refl _⟩
  | n + 1, hn => by
    obtain ⟨i1, i2⟩ := LVn_nd (v := v) (n := n) (by omega)
    show (LVn c v n ++ (if ((n : Int) * 5 + v) % 7 < npF c ∧ ¬ am_and (am_shr (xvF c v) (((n : Int) * 5 + v) % 7)) 1 = 0 then [((n : Int) * 5 + v) % 7] else [])).Nodup ∧ (LVn c v n ++ _).length ≤ n + 1
    split
    · refine ⟨?_, by rw [List.length_append]; show _ + 1 ≤ _; omega⟩
      rw [List.nodup_append]
      refine ⟨i1, List.nodup_cons.2 ⟨by simp, List.nodup_nil⟩, fun p hp q hq => ?_⟩
      rw [List.mem_singleton] at hq
      obtain ⟨k, k1, k2, -⟩ := LVn_mem hp
      omega
    · rw [List.append_nil]
      exact ⟨i1, by omega⟩
theorem lpF_LA : LA (lpF c) (LVF c) (bbF c) (hbF c) (nwF c).toNat (npF c).toNat (nvF c).toNat (nbF c).toNat := by
  have b1 := bl_rg (x := c 0) (n := 3) (by decide)
  have b2 := bl_rg (x := c 5) (n := 7) (by decide)
  have b3 := bl_rg (x := c 8) (n := 7) (by decide)
  have b4 := bl_rg (x := c 13) (n := 6) (by decide)
  have n0 : nwF c = 1 + bl (c 0) 3 := rfl
  have n1 : npF c = 1 + bl (c 5) 7 := rfl
  have n2 : nvF c = 1 + bl (c 8) 7 := rfl
  have n3 : nbF c = bl (c 13) 6 := rfl
  refine ⟨⟨?_, by omega, by omega⟩, ⟨?_, by omega, by omega⟩, ⟨?_, by omega, by omega⟩, ⟨?_, by omega⟩, fun i i0 i1 => ?_, fun i i0 i1 => ?_, ⟨?_, fun z => ?_⟩, fun v v0 v1 => ?_, fun v p v0 v1 p0 p1 => ?_, fun i i0 i1 => ?_⟩
  · show nwF c = _; omega
  · show npF c = _; omega
  · show nvF c = _; omega
  · show nbF c = _; omega
  · have := bl_rg (x := c (1 + i)) (n := 5) (by decide)
    show 0 ≤ bl (c (1 + i)) 5 ∧ bl (c (1 + i)) 5 ≤ 4
    omega
  · have a1 := bl_rg (x := am_shr (xpF c i) 3) (n := nwF c) (by omega)
    have a2 := bl_rg (x := am_shr (xpF c i) 5) (n := 51) (by decide)
    have a3 := bl_rg (x := xpF c i) (n := if bl (am_shr (xpF c i) 6) 4 = 0 then 999 else 120) (by split <;> decide)
    have a4 : (if bl (am_shr (xpF c i) 6) 4 = 0 then (999 : Int) else 120) ≤ 999 := by split <;> decide
    show (0 ≤ bl (am_shr (xpF c i) 3) (nwF c) ∧ bl (am_shr (xpF c i) 3) (nwF c) < _) ∧ (0 ≤ bl (am_shr (xpF c i) 5) 51 ∧ bl (am_shr (xpF c i) 5) 51 ≤ 50) ∧ 1 ≤ 1 + bl (xpF c i) (if bl (am_shr (xpF c i) 6) 4 = 0 then 999 else 120) ∧ 1 + bl (xpF c i) (if bl (am_shr (xpF c i) 6) 4 = 0 then 999 else 120) ≤ 999
    omega
  · show 0 ≤ (if hbF c = true then buF c else 100) ∧ (if hbF c = true then buF c else 100) ≤ 9999
    split
    · have a3 := bl_rg (x := c 4) (n := if bl (am_shr (c 4) 7) 3 = 0 then 10000 else 300) (by split <;> decide)
      have a4 : (if bl (am_shr (c 4) 7) 3 = 0 then (10000 : Int) else 300) ≤ 10000 := by split <;> decide
      unfold buF
      omega
    · decide
  · show (if hbF c = true then buF c else 100) = 100
    rw [z]
    rfl
  · obtain ⟨d1, d2⟩ := LVn_nd (c := c) (v := v) (n := (npF c).toNat) (by omega)
    refine ⟨fun p hp => ?_, d1, Nat.le_trans d2 (by omega)⟩
    obtain ⟨k, k1, k2, k3⟩ := LVn_mem hp
    omega
  · show (if (0 ≤ 12 * v + p ∧ (12 * v + p) / 12 < nvF c) ∧ (12 * v + p) % 12 ∈ LVF c ((12 * v + p) / 12) then 1 else 0) = _
    rw [show (12 * v + p) / 12 = v by omega, show (12 * v + p) % 12 = p by omega]
    by_cases z : p ∈ LVF c v
    · rw [if_pos ⟨⟨by omega, by omega⟩, z⟩, if_pos z]
    · rw [if_neg (fun y => z y.2), if_neg z]
  · have a1 := bl_rg (x := am_shr (xbF c i) 2) (n := npF c) (by omega)
    have a2 := bl_rg (x := xbF c i) (n := 8) (by decide)
    have a3 := bl_rg (x := am_shr (xbF c i) 4) (n := 20) (by decide)
    have a4 := bl_rg (x := am_shr (xbF c i) 6) (n := 90) (by decide)
    have a5 := bl_rg (x := am_shr (xbF c i) 5) (n := 42) (by decide)
    refine ⟨rfl, ?_, a2, a3, a4, a5⟩
    show 0 ≤ bl (am_shr (xbF c i) 2) (npF c) ∧ bl (am_shr (xbF c i) 2) (npF c) < _
    omega
end
/-! ===== the law's list, being made: what is kept ===== -/
def FV (a v : Int) (h h2 : AH) (v2 : Int) : Prop := (FP a v h h2) ∧ (v2 = v ∨ am_n h ≤ v2)
theorem FV.f {a v : Int} {h h2 : AH} {v2 : Int} (x : FV a v h h2 v2) : FP a v h h2 := x.1
theorem FV.o {a v : Int} {h h2 : AH} {v2 : Int} (x : FV a v h h2 v2) : v2 = v ∨ am_n h ≤ v2 := x.2
theorem FV.tr {a v v1 v2 : Int} {h h1 h2 : AH} (x : FV a v h h1 v1) (y : FV a v1 h1 h2 v2) : FV a v h h2 v2 := by
  have xo := x.o
  have yo := y.o
  have xn := x.f.1
  exact ⟨x.f.tr x.o y.f, by omega⟩
/-- cells below the next one, but a, v and z, are the same -/
def FmM (z : Int) (h h2 : AH) (a v v2 : Int) : Prop := (am_n h ≤ am_n h2) ∧ (v2 = v ∨ am_n h ≤ v2) ∧ (∀ y, y < am_n h → ¬ y = a → ¬ y = v → ¬ y = z → am_t h2 y = am_t h y ∧ am_l h2 y = am_l h y ∧ ∀ i, am_m h2 y i = am_m h y i)
theorem FmM.n {z : Int} {h h2 : AH} {a v v2 : Int} (x : FmM z h h2 a v v2) : am_n h ≤ am_n h2 := x.1
theorem FmM.o {z : Int} {h h2 : AH} {a v v2 : Int} (x : FmM z h h2 a v v2) : v2 = v ∨ am_n h ≤ v2 := x.2.1
theorem FmM.s {z : Int} {h h2 : AH} {a v v2 : Int} (x : FmM z h h2 a v v2) : ∀ y, y < am_n h → ¬ y = a → ¬ y = v → ¬ y = z → am_t h2 y = am_t h y ∧ am_l h2 y = am_l h y ∧ ∀ i, am_m h2 y i = am_m h y i := x.2.2
theorem FV.m {a v v2 : Int} {h h2 : AH} (x : FV a v h h2 v2) : FmM a h h2 a v v2 := ⟨x.f.1, x.o, fun y y1 y2 y3 _ => ⟨(x.f.2.2.2.1 y y1).1, (x.f.2.2.2.1 y y1).2, fun i => x.f.2.2.2.2 y y1 y2 y3 i⟩⟩
theorem FmM.w {h : AH} {a v z i x : Int} : FmM z h (am_w h z i x) a v v := ⟨Int.le_refl _, Or.inl rfl, fun y _ _ _ y4 => ⟨rfl, rfl, fun j => by rw [am_m_w, if_neg (fun u => y4 u.1)]⟩⟩
theorem KpO.m {h h2 : AH} {a v : Int} (k : KpO (am_n h) h h2) : FmM a h h2 a v v := ⟨k.n, Or.inl rfl, fun y y1 _ _ _ => k.c y y1⟩
/-- a cell of the list's that is not the builder's -/
def KQ (h : AH) (a v z : Int) : Prop := (-100000000 ≤ z ∧ z < am_n h) ∧ ¬ z = a ∧ ¬ z = v
theorem KQ.m {h h2 : AH} {a v v2 z y : Int} (q : KQ h a v y) (f : FmM z h h2 a v v2) : KQ h2 a v2 y := by
  have fn := f.n
  have fo := f.o
  unfold KQ at q ⊢
  omega
def GO (h : AH) (o a v B : Int) : Prop := (KQ h a v o) ∧ (am_t h o = 7) ∧ (am_m h o 0 = 0) ∧ (am_m h o 1 = 0) ∧ (am_m h o 2 = 0) ∧ (am_m h o 3 = B) ∧ (am_m h o 9 = -1)
theorem GO.q {h : AH} {o a v B : Int} (x : GO h o a v B) : KQ h a v o := x.1
theorem GO.t {h : AH} {o a v B : Int} (x : GO h o a v B) : am_t h o = 7 := x.2.1
theorem GO.m0 {h : AH} {o a v B : Int} (x : GO h o a v B) : am_m h o 0 = 0 := x.2.2.1
theorem GO.m1 {h : AH} {o a v B : Int} (x : GO h o a v B) : am_m h o 1 = 0 := x.2.2.2.1
theorem GO.m2 {h : AH} {o a v B : Int} (x : GO h o a v B) : am_m h o 2 = 0 := x.2.2.2.2.1
theorem GO.m3 {h : AH} {o a v B : Int} (x : GO h o a v B) : am_m h o 3 = B := x.2.2.2.2.2.1
theorem GO.m9 {h : AH} {o a v B : Int} (x : GO h o a v B) : am_m h o 9 = -1 := x.2.2.2.2.2.2
def G1 (h : AH) (o a v : Int) (lp : TT) (C k : Int) : Prop := (KQ h a v C ∧ o < C) ∧ (am_m h o 4 = C) ∧ (am_t h C = 20) ∧ (am_l h C = lp 0 0) ∧ (∀ w, 0 ≤ w → w < k → am_m h C w = lp 4 w)
theorem G1.q {h : AH} {o a v : Int} {lp : TT} {C k : Int} (x : G1 h o a v lp C k) : KQ h a v C ∧ o < C := x.1
theorem G1.p {h : AH} {o a v : Int} {lp : TT} {C k : Int} (x : G1 h o a v lp C k) : am_m h o 4 = C := x.2.1
theorem G1.t {h : AH} {o a v : Int} {lp : TT} {C k : Int} (x : G1 h o a v lp C k) : am_t h C = 20 := x.2.2.1
theorem G1.l {h : AH} {o a v : Int} {lp : TT} {C k : Int} (x : G1 h o a v lp C k) : am_l h C = lp 0 0 := x.2.2.2.1
theorem G1.m {h : AH} {o a v : Int} {lp : TT} {C k : Int} (x : G1 h o a v lp C k) : ∀ w, 0 ≤ w → w < k → am_m h C w = lp 4 w := x.2.2.2.2
def G2 (h : AH) (o a v : Int) (lp : TT) (C P : Int) (A : Int → Int) (k : Int) : Prop := (KQ h a v P ∧ C < P) ∧ (am_m h o 5 = P) ∧ (am_t h P = 24) ∧ (am_l h P = lp 1 0) ∧ (∀ i, 0 ≤ i → i < k → KQ h a v (A i) ∧ P < A i ∧ am_m h P i = A i ∧ am_t h (A i) = 20 ∧ am_l h (A i) = 5 ∧ am_m h (A i) 0 = lp 9 i ∧ am_m h (A i) 1 = lp 5 i ∧ am_m h (A i) 2 = lp 6 i ∧ am_m h (A i) 3 = -1 ∧ am_m h (A i) 4 = 0) ∧ (∀ i j, 0 ≤ i → i < j → j < k → A i < A j)
theorem G2.q {h : AH} {o a v : Int} {lp : TT} {C P : Int} {A : Int → Int} {k : Int} (x : G2 h o a v lp C P A k) : KQ h a v P ∧ C < P := x.1
theorem G2.p {h : AH} {o a v : Int} {lp : TT} {C P : Int} {A : Int → Int} {k : Int} (x : G2 h o a v lp C P A k) : am_m h o 5 = P := x.2.1
theorem G2.t {h : AH} {o a v : Int} {lp : TT} {C P : Int} {A : Int → Int} {k : Int} (x : G2 h o a v lp C P A k) : am_t h P = 24 := x.2.2.1
theorem G2.l {h : AH} {o a v : Int} {lp : TT} {C P : Int} {A : Int → Int} {k : Int} (x : G2 h o a v lp C P A k) : am_l h P = lp 1 0 := x.2.2.2.1
theorem G2.m {h : AH} {o a v : Int} {lp : TT} {C P : Int} {A : Int → Int} {k : Int} (x : G2 h o a v lp C P A k) : ∀ i, 0 ≤ i → i < k → KQ h a v (A i) ∧ P < A i ∧ am_m h P i = A i ∧ am_t h (A i) = 20 ∧ am_l h (A i) = 5 ∧ am_m h (A i) 0 = lp 9 i ∧ am_m h (A i) 1 = lp 5 i ∧ am_m h (A i) 2 = lp 6 i ∧ am_m h (A i) 3 = -1 ∧ am_m h (A i) 4 = 0 := x.2.2.2.2.1
theorem G2.i {h : AH} {o a v : Int} {lp : TT} {C P : Int} {A : Int → Int} {k : Int} (x : G2 h o a v lp C P A k) : ∀ i j, 0 ≤ i → i < j → j < k → A i < A j := x.2.2.2.2.2
def G3 (h : AH) (o a v : Int) (lp : TT) (V : Int) : Prop := (KQ h a v V) ∧ (am_m h o 6 = V) ∧ (am_t h V = 24) ∧ (am_l h V = lp 2 0) ∧ (∀ i, 0 ≤ i → i < lp 2 0 → KQ h a v (V + 1 + i) ∧ am_m h V i = V + 1 + i ∧ am_t h (V + 1 + i) = 20 ∧ am_l h (V + 1 + i) = 3 ∧ ∀ j, am_m h (V + 1 + i) j = 0)
theorem G3.q {h : AH} {o a v : Int} {lp : TT} {V : Int} (x : G3 h o a v lp V) : KQ h a v V := x.1
theorem G3.p {h : AH} {o a v : Int} {lp : TT} {V : Int} (x : G3 h o a v lp V) : am_m h o 6 = V := x.2.1
theorem G3.t {h : AH} {o a v : Int} {lp : TT} {V : Int} (x : G3 h o a v lp V) : am_t h V = 24 := x.2.2.1
theorem G3.l {h : AH} {o a v : Int} {lp : TT} {V : Int} (x : G3 h o a v lp V) : am_l h V = lp 2 0 := x.2.2.2.1
theorem G3.m {h : AH} {o a v : Int} {lp : TT} {V : Int} (x : G3 h o a v lp V) : ∀ i, 0 ≤ i → i < lp 2 0 → KQ h a v (V + 1 + i) ∧ am_m h V i = V + 1 + i ∧ am_t h (V + 1 + i) = 20 ∧ am_l h (V + 1 + i) = 3 ∧ ∀ j, am_m h (V + 1 + i) j = 0 := x.2.2.2.2
def G4 (h : AH) (o a v : Int) (lp : TT) (W : Int) (LK : Int → Int → Int) : Prop := (KQ h a v W) ∧ (am_m h o 7 = W) ∧ (am_t h W = 25) ∧ (am_l h W = lp 2 0) ∧ (∀ i, 0 ≤ i → i < lp 2 0 → KQ h a v (W + 1 + i) ∧ am_m h W i = W + 1 + i ∧ am_t h (W + 1 + i) = 23 ∧ am_l h (W + 1 + i) = lp 1 0 ∧ ∀ j, 0 ≤ j → j < lp 1 0 → am_m h (W + 1 + i) j = LK i j)
theorem G4.q {h : AH} {o a v : Int} {lp : TT} {W : Int} {LK : Int → Int → Int} (x : G4 h o a v lp W LK) : KQ h a v W := x.1
theorem G4.p {h : AH} {o a v : Int} {lp : TT} {W : Int} {LK : Int → Int → Int} (x : G4 h o a v lp W LK) : am_m h o 7 = W := x.2.1
theorem G4.t {h : AH} {o a v : Int} {lp : TT} {W : Int} {LK : Int → Int → Int} (x : G4 h o a v lp W LK) : am_t h W = 25 := x.2.2.1
theorem G4.l {h : AH} {o a v : Int} {lp : TT} {W : Int} {LK : Int → Int → Int} (x : G4 h o a v lp W LK) : am_l h W = lp 2 0 := x.2.2.2.1
theorem G4.m {h : AH} {o a v : Int} {lp : TT} {W : Int} {LK : Int → Int → Int} (x : G4 h o a v lp W LK) : ∀ i, 0 ≤ i → i < lp 2 0 → KQ h a v (W + 1 + i) ∧ am_m h W i = W + 1 + i ∧ am_t h (W + 1 + i) = 23 ∧ am_l h (W + 1 + i) = lp 1 0 ∧ ∀ j, 0 ≤ j → j < lp 1 0 → am_m h (W + 1 + i) j = LK i j := x.2.2.2.2
def G5 (h : AH) (o a v : Int) (lp : TT) (bb : Int → Int → Int) (D : Int) (A : Int → Int) (k : Int) : Prop := (KQ h a v D) ∧ (am_m h o 8 = D) ∧ (am_t h D = 24) ∧ (am_l h D = lp 3 0) ∧ (∀ i, 0 ≤ i → i < k → KQ h a v (A i) ∧ D < A i ∧ am_m h D i = A i ∧ am_t h (A i) = 20 ∧ am_l h (A i) = 5 ∧ ∀ j, 0 ≤ j → j < 5 → am_m h (A i) j = bb i j)
theorem G5.q {h : AH} {o a v : Int} {lp : TT} {bb : Int → Int → Int} {D : Int} {A : Int → Int} {k : Int} (x : G5 h o a v lp bb D A k) : KQ h a v D := x.1
theorem G5.p {h : AH} {o a v : Int} {lp : TT} {bb : Int → Int → Int} {D : Int} {A : Int → Int} {k : Int} (x : G5 h o a v lp bb D A k) : am_m h o 8 = D := x.2.1
theorem G5.t {h : AH} {o a v : Int} {lp : TT} {bb : Int → Int → Int} {D : Int} {A : Int → Int} {k : Int} (x : G5 h o a v lp bb D A k) : am_t h D = 24 := x.2.2.1
theorem G5.l {h : AH} {o a v : Int} {lp : TT} {bb : Int → Int → Int} {D : Int} {A : Int → Int} {k : Int} (x : G5 h o a v lp bb D A k) : am_l h D = lp 3 0 := x.2.2.2.1
theorem G5.m {h : AH} {o a v : Int} {lp : TT} {bb : Int → Int → Int} {D : Int} {A : Int → Int} {k : Int} (x : G5 h o a v lp bb D A k) : ∀ i, 0 ≤ i → i < k → KQ h a v (A i) ∧ D < A i ∧ am_m h D i = A i ∧ am_t h (A i) = 20 ∧ am_l h (A i) = 5 ∧ ∀ j, 0 ≤ j → j < 5 → am_m h (A i) j = bb i j := x.2.2.2.2
section
variable {h h2 : AH} {o a v v2 z B C P k V W D : Int} {lp : TT} {A : Int → Int} {LK bb : Int → Int → Int}
theorem GO.m (g : GO h o a v B) (f : FmM z h h2 a v v2) (hz : ¬ o = z) : GO h2 o a v2 B := by
  obtain ⟨q1, q2, q3⟩ := g.q
  obtain ⟨s1, s2, s3⟩ := f.s o q1.2 q2 q3 hz
  exact ⟨g.q.m f, s1.trans g.t, (s3 _).trans g.m0, (s3 _).trans g.m1, (s3 _).trans g.m2, (s3 _).trans g.m3, (s3 _).trans g.m9⟩
theorem G1.m' (g : G1 h o a v lp C k) (f : FmM z h h2 a v v2) (ho : am_m h2 o 4 = am_m h o 4) (hz : ¬ C = z) : G1 h2 o a v2 lp C k := by
  obtain ⟨⟨q1, q2, q3⟩, q4⟩ := g.q
  obtain ⟨s1, s2, s3⟩ := f.s C q1.2 q2 q3 hz
  exact ⟨⟨g.q.1.m f, q4⟩, ho.trans g.p, s1.trans g.t, s2.trans g.l, fun w w0 w1 => (s3 w).trans (g.m w w0 w1)⟩
theorem G2.m' (g : G2 h o a v lp C P A k) (f : FmM z h h2 a v v2) (ho : am_m h2 o 5 = am_m h o 5) (hz : ¬ P = z) (hA : ∀ i, 0 ≤ i → i < k → ¬ A i = z) : G2 h2 o a v2 lp C P A k := by
  obtain ⟨⟨q1, q2, q3⟩, q4⟩ := g.q
  obtain ⟨s1, s2, s3⟩ := f.s P q1.2 q2 q3 hz
  refine ⟨⟨g.q.1.m f, q4⟩, ho.trans g.p, s1.trans g.t, s2.trans g.l, fun i i0 i1 => ?_, g.i⟩
  obtain ⟨m1, m2, m3, m4, m5, m6, m7, m8, m9, m10⟩ := g.m i i0 i1
  obtain ⟨r1, r2, r3⟩ := f.s (A i) m1.1.2 m1.2.1 m1.2.2 (hA i i0 i1)
  exact ⟨m1.m f, m2, (s3 i).trans m3, r1.trans m4, r2.trans m5, (r3 _).trans m6, (r3 _).trans m7, (r3 _).trans m8, (r3 _).trans m9, (r3 _).trans m10⟩
theorem G3.m' (g : G3 h o a v lp V) (f : FmM z h h2 a v v2) (ho : am_m h2 o 6 = am_m h o 6) (hz : ¬ V = z) (hA : ∀ i, 0 ≤ i → i < lp 2 0 → ¬ V + 1 + i = z) : G3 h2 o a v2 lp V := by
  obtain ⟨q1, q2, q3⟩ := g.q
  obtain ⟨s1, s2, s3⟩ := f.s V q1.2 q2 q3 hz
  refine ⟨g.q.m f, ho.trans g.p, s1.trans g.t, s2.trans g.l, fun i i0 i1 => ?_⟩
  obtain ⟨m1, m2, m3, m4, m5⟩ := g.m i i0 i1
  obtain ⟨r1, r2, r3⟩ := f.s (V + 1 + i) m1.1.2 m1.2.1 m1.2.2 (hA i i0 i1)
  exact ⟨m1.m f, (s3 i).trans m2, r1.trans m3, r2.trans m4, fun j => (r3 j).trans (m5 j)⟩
theorem G4.m' (g : G4 h o a v lp W LK) (f : FmM z h h2 a v v2) (ho : am_m h2 o 7 = am_m h o 7) (hz : ¬ W = z) (hA : ∀ i, 0 ≤ i → i < lp 2 0 → ¬ W + 1 + i = z) : G4 h2 o a v2 lp W LK := by
  obtain ⟨q1, q2, q3⟩ := g.q
  obtain ⟨s1, s2, s3⟩ := f.s W q1.2 q2 q3 hz
  refine ⟨g.q.m f, ho.trans g.p, s1.trans g.t, s2.trans g.l, fun i i0 i1 => ?_⟩
  obtain ⟨m1, m2, m3, m4, m5⟩ := g.m i i0 i1
  obtain ⟨r1, r2, r3⟩ := f.s (W + 1 + i) m1.1.2 m1.2.1 m1.2.2 (hA i i0 i1)
  exact ⟨m1.m f, (s3 i).trans m2, r1.trans m3, r2.trans m4, fun j j0 j1 => (r3 j).trans (m5 j j0 j1)⟩
theorem G5.m' (g : G5 h o a v lp bb D A k) (f : FmM z h h2 a v v2) (ho : am_m h2 o 8 = am_m h o 8) (hz : ¬ D = z) (hA : ∀ i, 0 ≤ i → i < k → ¬ A i = z) : G5 h2 o a v2 lp bb D A k := by
  obtain ⟨q1, q2, q3⟩ := g.q
  obtain ⟨s1, s2, s3⟩ := f.s D q1.2 q2 q3 hz
  refine ⟨g.q.m f, ho.trans g.p, s1.trans g.t, s2.trans g.l, fun i i0 i1 => ?_⟩
  obtain ⟨m1, m2, m3, m4, m5, m6⟩ := g.m i i0 i1
  obtain ⟨r1, r2, r3⟩ := f.s (A i) m1.1.2 m1.2.1 m1.2.2 (hA i i0 i1)
  exact ⟨m1.m f, m2, (s3 i).trans m3, r1.trans m4, r2.trans m5, fun j j0 j1 => (r3 j).trans (m6 j j0 j1)⟩
end
section
variable {d : Nat} {L : Nat} {xs : Nat → Int32} {h : AH} {a v N : Int} {M : Nat} {bs : List Int} {K : AK}
theorem wC {s : Int} (x : BX (am_h0 L xs) h a v N M bs) (j : Nat) (hs : s = -(300000000 + 2 * (j : Int))) (hj : j < 36) {ts : List Int} (e : am_tx.getD j [] = ts) (hN : N < -6000) (hM : M + ts.length ≤ 2000) (k : ∀ h2 v2, BX (am_h0 L xs) h2 a v2 (N + 1) (M + ts.length) (bs ++ ts) → FV a v h h2 v2 → K 0 a h2) : am_call (d + 5) 129 [(2, a), (2, s)] h K := apC x j hs hj e hN hM (fun h2 v2 x2 f2 o2 => k h2 v2 x2 ⟨f2, o2⟩)
theorem wN {z : Int} (x : BX (am_h0 L xs) h a v N M bs) (hz : 0 ≤ z ∧ z < 10000) (hN : N < -6000) (hM : M + 4 ≤ 2000) (k : ∀ h2 v2, BX (am_h0 L xs) h2 a v2 (N + 1) (M + 4) (bs ++ dg z) → FV a v h h2 v2 → K 0 a h2) : am_call (d + 5) 130 [(2, a), (0, z)] h K := apN x hz hN hM (fun h2 v2 x2 f2 o2 => k h2 v2 x2 ⟨f2, o2⟩)
/-- a builder outlives what is made and written elsewhere -/
theorem BX.ko {h2 : AH} {N2 : Int} (x : BX (am_h0 L xs) h a v N M bs) (f : KpO (am_n h) h h2) (kx : KX (am_h0 L xs) h2 N2) : BX (am_h0 L xs) h2 a v N2 M bs := by
  have a1 := x.tb.a1
  have v1 := x.tb.v1
  obtain ⟨t1, l1, m1⟩ := f.c a a1
  obtain ⟨t2, l2, m2⟩ := f.c v v1
  have fn := f.n
  have tb := x.tb
  exact ⟨⟨t1.trans tb.t, (m1 _).trans tb.v0, (m1 _).trans tb.c, (m1 _).trans tb.n, t2.trans tb.vt, by rw [l2]; exact tb.l1, by rw [l2]; exact tb.l2, by omega, by omega, tb.na, tb.nv, tb.av, fun i hi => (m2 i).trans (tb.b i hi)⟩, kx, x.ab, x.ln⟩
theorem BX.w {z i y : Int} (x : BX (am_h0 L xs) h a v N M bs) (hz : -300000000 < z ∧ ¬ z = a ∧ ¬ z = v) : BX (am_h0 L xs) (am_w h z i y) a v N M bs := by
  have tb := x.tb
  have e : ∀ b j, ¬ b = z → am_m (am_w h z i y) b j = am_m h b j := fun b j hb => by rw [am_m_w, if_neg (fun u => hb u.1)]
  have kx := x.kx
  exact ⟨⟨tb.t, (e _ _ (by omega)).trans tb.v0, (e _ _ (by omega)).trans tb.c, (e _ _ (by omega)).trans tb.n, tb.vt, tb.l1, tb.l2, tb.a1, tb.v1, tb.na, tb.nv, tb.av, fun i hi => (e _ _ (by omega)).trans (tb.b i hi)⟩, ⟨fun b hb => ⟨(kx.c b hb).1, (kx.c b hb).2.1, fun i => (e _ _ (by omega)).trans ((kx.c b hb).2.2 i)⟩, kx.sl, kx.sx, kx.n⟩, x.ab, x.ln⟩
end
