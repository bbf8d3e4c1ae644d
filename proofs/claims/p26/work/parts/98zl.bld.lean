/-! ===== builders in the first phase: constants, texts made, what is kept ===== -/
/-- the cells below n are the same -/
def KpO (n : Int) (h h2 : AH) : Prop := (am_n h ≤ am_n h2) ∧ (am_sl h2 = am_sl h) ∧ (∀ j, am_sx h2 j = am_sx h j) ∧ (∀ b, b < n → am_t h2 b = am_t h b ∧ am_l h2 b = am_l h b ∧ ∀ i, am_m h2 b i = am_m h b i)
theorem KpO.n {n : Int} {h h2 : AH} (x : KpO n h h2) : am_n h ≤ am_n h2 := x.1
theorem KpO.sl {n : Int} {h h2 : AH} (x : KpO n h h2) : am_sl h2 = am_sl h := x.2.1
theorem KpO.sx {n : Int} {h h2 : AH} (x : KpO n h h2) : ∀ j, am_sx h2 j = am_sx h j := x.2.2.1
theorem KpO.c {n : Int} {h h2 : AH} (x : KpO n h h2) : ∀ b, b < n → am_t h2 b = am_t h b ∧ am_l h2 b = am_l h b ∧ ∀ i, am_m h2 b i = am_m h b i := x.2.2.2
theorem KpO.rf {n : Int} {h : AH} : KpO n h h := ⟨Int.le_refl _, rfl, fun _ => rfl, fun _ _ => ⟨rfl, rfl, fun _ => rfl⟩⟩
theorem KpO.tr {n : Int} {h h1 h2 : AH} (x : KpO n h h1) (y : KpO n h1 h2) : KpO n h h2 := ⟨Int.le_trans x.n y.n, y.sl.trans x.sl, fun j => (y.sx j).trans (x.sx j), fun b hb => ⟨(y.c b hb).1.trans (x.c b hb).1, (y.c b hb).2.1.trans (x.c b hb).2.1, fun i => ((y.c b hb).2.2 i).trans ((x.c b hb).2.2 i)⟩⟩
theorem KpO.le {n m : Int} {h h2 : AH} (x : KpO n h h2) (hm : m ≤ n) : KpO m h h2 := ⟨x.n, x.sl, x.sx, fun b hb => x.c b (by omega)⟩
theorem FP.ko {n a v : Int} {h h2 : AH} (f : FP a v h h2) (hn : n ≤ am_n h) (ha : n ≤ a) (hv : n ≤ v) : KpO n h h2 := by
  obtain ⟨f1, f2, f3, f4, f5⟩ := f
  exact ⟨f1, f2, f3, fun b hb => ⟨(f4 b (by omega)).1, (f4 b (by omega)).2, fun i => f5 b (by omega) (by omega) (by omega) i⟩⟩
/-- constants as the law found them, the next cell's bounds -/
def KX (h0 h : AH) (N : Int) : Prop := (∀ b, b ≤ -300000000 → am_t h b = am_t h0 b ∧ am_l h b = am_l h0 b ∧ ∀ i, am_m h b i = am_m h0 b i) ∧ (am_sl h = am_sl h0) ∧ (∀ j, am_sx h j = am_sx h0 j) ∧ (-100000000 ≤ am_n h ∧ am_n h ≤ N)
theorem KX.c {h0 h : AH} {N : Int} (x : KX h0 h N) : ∀ b, b ≤ -300000000 → am_t h b = am_t h0 b ∧ am_l h b = am_l h0 b ∧ ∀ i, am_m h b i = am_m h0 b i := x.1
theorem KX.sl {h0 h : AH} {N : Int} (x : KX h0 h N) : am_sl h = am_sl h0 := x.2.1
theorem KX.sx {h0 h : AH} {N : Int} (x : KX h0 h N) : ∀ j, am_sx h j = am_sx h0 j := x.2.2.1
theorem KX.n {h0 h : AH} {N : Int} (x : KX h0 h N) : -100000000 ≤ am_n h ∧ am_n h ≤ N := x.2.2.2
theorem KX.le {h0 h : AH} {N M : Int} (x : KX h0 h N) (hm : N ≤ M) : KX h0 h M := ⟨x.c, x.sl, x.sx, x.n.1, by have := x.n.2; omega⟩
theorem KX.fp {h0 h h2 : AH} {N M a v : Int} (x : KX h0 h N) (f : FP a v h h2) (ha : -300000000 < a) (hv : -300000000 < v) (hm : am_n h2 ≤ M) : KX h0 h2 M := by
  have xn := x.n
  obtain ⟨f1, f2, f3, f4, f5⟩ := f
  exact ⟨fun b hb => ⟨(f4 b (by omega)).1.trans (x.c b hb).1, (f4 b (by omega)).2.trans (x.c b hb).2.1, fun i => (f5 b (by omega) (by omega) (by omega) i).trans ((x.c b hb).2.2 i)⟩, f2.trans x.sl, fun j => (f3 j).trans (x.sx j), by omega, hm⟩
/-- a builder at a, its row at v -/
def BX (h0 h : AH) (a v N : Int) (M : Nat) (bs : List Int) : Prop := (TB h a v bs) ∧ (KX h0 h N) ∧ (-100000000 ≤ a ∧ -100000000 ≤ v) ∧ (bs.length ≤ M)
theorem BX.tb {h0 h : AH} {a v N : Int} {M : Nat} {bs : List Int} (x : BX h0 h a v N M bs) : TB h a v bs := x.1
theorem BX.kx {h0 h : AH} {a v N : Int} {M : Nat} {bs : List Int} (x : BX h0 h a v N M bs) : KX h0 h N := x.2.1
theorem BX.ab {h0 h : AH} {a v N : Int} {M : Nat} {bs : List Int} (x : BX h0 h a v N M bs) : -100000000 ≤ a ∧ -100000000 ≤ v := x.2.2.1
theorem BX.ln {h0 h : AH} {a v N : Int} {M : Nat} {bs : List Int} (x : BX h0 h a v N M bs) : bs.length ≤ M := x.2.2.2
theorem BX.re {h0 h : AH} {a v N N2 : Int} {M M2 : Nat} {bs : List Int} (x : BX h0 h a v N M bs) (hn : am_n h ≤ N2) (hm : bs.length ≤ M2) : BX h0 h a v N2 M2 bs := ⟨x.tb, ⟨x.kx.c, x.kx.sl, x.kx.sx, x.kx.n.1, hn⟩, x.ab, hm⟩
theorem ts_const {L : Nat} {xs : Nat → Int32} {h : AH} {N : Int} (x : KX (am_h0 L xs) h N) (j : Nat) (h2 : j < 36) {ts : List Int} (e : am_tx.getD j [] = ts) : TS h (-(300000000 + 2 * (j : Int))) (-(300000000 + 2 * (j : Int) + 1)) ts := by
  have xn := x.n
  obtain ⟨t1, l1, m1⟩ := x.c (-(300000000 + 2 * (j : Int))) (by omega)
  obtain ⟨t2, l2, m2⟩ := x.c (-(300000000 + 2 * (j : Int) + 1)) (by omega)
  have a1 : am_t (am_h0 L xs) (-(300000000 + 2 * (j : Int))) = 18 := by
    show (if -(300000000 + 2 * (j : Int)) ≤ -300000000 ∧ -300000076 < -(300000000 + 2 * (j : Int)) then (if (-(-(300000000 + 2 * (j : Int)))) % 2 = 0 then (if -300000072 < -(300000000 + 2 * (j : Int)) then 18 else 0) else 26) else 0) = 18
    rw [if_pos (by omega), if_pos (by omega), if_pos (by omega)]
  have a2 : am_t (am_h0 L xs) (-(300000000 + 2 * (j : Int) + 1)) = 26 := by
    show (if -(300000000 + 2 * (j : Int) + 1) ≤ -300000000 ∧ -300000076 < -(300000000 + 2 * (j : Int) + 1) then (if (-(-(300000000 + 2 * (j : Int) + 1))) % 2 = 0 then (if -300000072 < -(300000000 + 2 * (j : Int) + 1) then 18 else 0) else 26) else 0) = 26
    rw [if_pos (by omega), if_neg (by omega)]
  have ej : ((- -(300000000 + 2 * (j : Int) + 1) - 300000000) / 2).toNat = j := by omega
  have a3 : am_l (am_h0 L xs) (-(300000000 + 2 * (j : Int) + 1)) = (ts.length : Int) := by
    show am_cn ((-(-(300000000 + 2 * (j : Int) + 1)) - 300000000) / 2).toNat = _
    rw [ej]
    unfold am_cn am_tn
    rw [if_pos h2, show ((j : Int)).toNat = j by omega, e]
  have a4 : ∀ i, am_m (am_h0 L xs) (-(300000000 + 2 * (j : Int) + 1)) i = ts.getD i.toNat 0 := fun i => by
    show (if (-(-(300000000 + 2 * (j : Int) + 1))) % 2 = 0 then (if i = 0 then -(300000000 + 2 * (j : Int) + 1) - 1 else 0) else am_kc ((-(-(300000000 + 2 * (j : Int) + 1)) - 300000000) / 2).toNat i) = _
    rw [if_neg (by omega), ej]
    unfold am_kc am_tb
    rw [if_pos h2, show ((j : Int)).toNat = j by omega, e]
  have a5 : ∀ i, am_m (am_h0 L xs) (-(300000000 + 2 * (j : Int))) i = if i = 0 then -(300000000 + 2 * (j : Int)) - 1 else 0 := fun i => by
    show (if (-(-(300000000 + 2 * (j : Int)))) % 2 = 0 then (if i = 0 then -(300000000 + 2 * (j : Int)) - 1 else 0) else am_kc ((-(-(300000000 + 2 * (j : Int))) - 300000000) / 2).toNat i) = _
    rw [if_pos (by omega)]
  refine ⟨Or.inr (t1.trans a1), ?_, ?_, Or.inr (t2.trans a2), l2.trans a3, by omega, by omega, by omega, fun i hi => ?_⟩
  · rw [m1, a5, if_pos rfl]; omega
  · rw [m1, a5, if_neg (by decide)]
  · rw [m2, a4, show ((i : Int)).toNat = i by omega]
theorem dg_const {L : Nat} {xs : Nat → Int32} {h : AH} {N : Int} (x : KX (am_h0 L xs) h N) : DG h := by
  obtain ⟨t1, l1, m1⟩ := x.c (-300000073) (by omega)
  obtain ⟨t2, l2, m2⟩ := x.c (-300000075) (by omega)
  refine ⟨⟨t1.trans rfl, l1.trans rfl, fun i i0 i1 => (m1 i).trans rfl⟩, t2.trans rfl, l2.trans rfl, fun i i0 i1 => (m2 i).trans rfl⟩
section
variable {d : Nat} {L : Nat} {xs : Nat → Int32} {h : AH} {a v N : Int} {M : Nat} {bs : List Int} {K : AK}
/-- a text appended -/
theorem apS {s w : Int} {ts : List Int} (x : BX (am_h0 L xs) h a v N M bs) (y : TS h s w ts) (nsa : ¬ s = a) (nsv : ¬ s = v) (nwa : ¬ w = a) (nwv : ¬ w = v) (hN : N < -6000) (hM : M + ts.length ≤ 2000) (k : ∀ h2 v2, BX (am_h0 L xs) h2 a v2 (N + 1) (M + ts.length) (bs ++ ts) → FP a v h h2 → (v2 = v ∨ am_n h ≤ v2) → K 0 a h2) : am_call (d + 5) 129 [(2, a), (2, s)] h K := by
  have xn := x.kx.n
  have xa := x.ab
  have xl := x.ln
  refine d129 x.tb y nsa nsv nwa nwv (by omega) (Or.inl (by omega)) (by omega) (fun h2 v2 t2 f2 n2 o2 => k h2 v2 ⟨t2, x.kx.fp f2 (by omega) (by omega) (by omega), ⟨xa.1, by omega⟩, ?_⟩ f2 o2)
  rw [List.length_append]
  omega
/-- a constant text appended -/
theorem apC {s : Int} (x : BX (am_h0 L xs) h a v N M bs) (j : Nat) (hs : s = -(300000000 + 2 * (j : Int))) (hj : j < 36) {ts : List Int} (e : am_tx.getD j [] = ts) (hN : N < -6000) (hM : M + ts.length ≤ 2000) (k : ∀ h2 v2, BX (am_h0 L xs) h2 a v2 (N + 1) (M + ts.length) (bs ++ ts) → FP a v h h2 → (v2 = v ∨ am_n h ≤ v2) → K 0 a h2) : am_call (d + 5) 129 [(2, a), (2, s)] h K := by
  have xa := x.ab
  subst hs
  exact apS x (ts_const x.kx j hj e) (by omega) (by omega) (by omega) (by omega) hN hM k
/-- a number appended -/
theorem apN {z : Int} (x : BX (am_h0 L xs) h a v N M bs) (hz : 0 ≤ z ∧ z < 10000) (hN : N < -6000) (hM : M + 4 ≤ 2000) (k : ∀ h2 v2, BX (am_h0 L xs) h2 a v2 (N + 1) (M + 4) (bs ++ dg z) → FP a v h h2 → (v2 = v ∨ am_n h ≤ v2) → K 0 a h2) : am_call (d + 5) 130 [(2, a), (0, z)] h K := by
  have xn := x.kx.n
  have xa := x.ab
  have xl := x.ln
  have dl := dg_l4 (x := z)
  refine d130 x.tb (dg_const x.kx) hz (by omega) (by omega) (by omega) (by omega) (Or.inl (by omega)) (by omega) (fun h2 v2 t2 f2 n2 o2 => k h2 v2 ⟨t2, x.kx.fp f2 (by omega) (by omega) (by omega), ⟨xa.1, by omega⟩, ?_⟩ f2 o2)
  rw [List.length_append]
  omega
/-- a builder made -/
theorem nB (x : KX (am_h0 L xs) h N) (hN : N < -6000) (k : ∀ h2, BX (am_h0 L xs) h2 (am_n h) (am_n h + 1) (N + 2) 0 [] → KpO (am_n h) h h2 → K 0 0 h2) : am_call (d + 1) 131 [(2, am_n h)] (am_a h 8 4 (am_df 8)) K := by
  have xn := x.n
  have n1 : am_n (am_a h 8 4 (am_df 8)) = am_n h + 1 := rfl
  have F1 : FP (am_n h) (am_n h) h (am_a h 8 4 (am_df 8)) := FP.rf.al
  refine d131 (if_pos rfl) ((if_pos rfl).trans rfl) (by rw [n1]; omega) (by omega) (Or.inl (by rw [n1]; omega)) (by rw [n1]; omega) (fun h2 t2 f2 n2 => ?_)
  have F2 : FP (am_n h) (am_n h) h h2 := F1.tr (Or.inl rfl) f2
  rw [n1] at t2 n2
  exact k h2 ⟨t2, x.fp F2 (by omega) (by omega) (by omega), by omega, Nat.le_refl _⟩ (F2.ko (Int.le_refl _) (Int.le_refl _) (Int.le_refl _))
/-- a builder read out -/
theorem tS (x : BX (am_h0 L xs) h a v N M bs) (hN : N < -6000) (k : ∀ h2, TS h2 (am_n h) (am_n h + 1) bs → KX (am_h0 L xs) h2 (N + 2) → KpO (am_n h) h h2 → am_n h2 = am_n h + 2 → K 0 (am_n h) h2) : am_call (d + 5) 133 [(2, a)] h K := by
  have xn := x.kx.n
  refine d133 x.tb (Or.inl (by omega)) (fun h2 e => Or.inl (by omega)) (by omega) (by omega) (fun h2 t2 _ f2 _ n2 => k h2 t2 (x.kx.fp f2 (by omega) (by omega) (by omega)) (f2.ko (Int.le_refl _) (Int.le_refl _) (Int.le_refl _)) n2)
/-- a builder made behind hb -/
def BZ (h0 hb h : AH) (a v N : Int) (M : Nat) (bs : List Int) : Prop := (BX h0 h a v N M bs) ∧ (KpO (am_n hb) hb h) ∧ (am_n hb ≤ a ∧ am_n hb ≤ v)
theorem BZ.x {h0 hb h : AH} {a v N : Int} {M : Nat} {bs : List Int} (x : BZ h0 hb h a v N M bs) : BX h0 h a v N M bs := x.1
theorem BZ.k {h0 hb h : AH} {a v N : Int} {M : Nat} {bs : List Int} (x : BZ h0 hb h a v N M bs) : KpO (am_n hb) hb h := x.2.1
theorem BZ.b {h0 hb h : AH} {a v N : Int} {M : Nat} {bs : List Int} (x : BZ h0 hb h a v N M bs) : am_n hb ≤ a ∧ am_n hb ≤ v := x.2.2
theorem zS {hb : AH} {s w : Int} {ts : List Int} (x : BZ (am_h0 L xs) hb h a v N M bs) (y : TS h s w ts) (hs : s < am_n hb) (hw : w < am_n hb) (hN : N < -6000) (hM : M + ts.length ≤ 2000) (k : ∀ h2 v2, BZ (am_h0 L xs) hb h2 a v2 (N + 1) (M + ts.length) (bs ++ ts) → K 0 a h2) : am_call (d + 5) 129 [(2, a), (2, s)] h K := by
  have xb := x.b
  have kn := x.k.n
  exact apS x.x y (by omega) (by omega) (by omega) (by omega) hN hM (fun h2 v2 x2 f2 o2 => k h2 v2 ⟨x2, x.k.tr (f2.ko kn xb.1 xb.2), xb.1, by omega⟩)
theorem zC {hb : AH} {s : Int} (x : BZ (am_h0 L xs) hb h a v N M bs) (j : Nat) (hs : s = -(300000000 + 2 * (j : Int))) (hj : j < 36) {ts : List Int} (e : am_tx.getD j [] = ts) (hN : N < -6000) (hM : M + ts.length ≤ 2000) (k : ∀ h2 v2, BZ (am_h0 L xs) hb h2 a v2 (N + 1) (M + ts.length) (bs ++ ts) → K 0 a h2) : am_call (d + 5) 129 [(2, a), (2, s)] h K := by
  have xb := x.b
  have kn := x.k.n
  exact apC x.x j hs hj e hN hM (fun h2 v2 x2 f2 o2 => k h2 v2 ⟨x2, x.k.tr (f2.ko kn xb.1 xb.2), xb.1, by omega⟩)
theorem zN {hb : AH} {z : Int} (x : BZ (am_h0 L xs) hb h a v N M bs) (hz : 0 ≤ z ∧ z < 10000) (hN : N < -6000) (hM : M + 4 ≤ 2000) (k : ∀ h2 v2, BZ (am_h0 L xs) hb h2 a v2 (N + 1) (M + 4) (bs ++ dg z) → K 0 a h2) : am_call (d + 5) 130 [(2, a), (0, z)] h K := by
  have xb := x.b
  have kn := x.k.n
  exact apN x.x hz hN hM (fun h2 v2 x2 f2 o2 => k h2 v2 ⟨x2, x.k.tr (f2.ko kn xb.1 xb.2), xb.1, by omega⟩)
theorem zB (x : KX (am_h0 L xs) h N) (hN : N < -6000) (k : ∀ h2, BZ (am_h0 L xs) h h2 (am_n h) (am_n h + 1) (N + 2) 0 [] → K 0 0 h2) : am_call (d + 1) 131 [(2, am_n h)] (am_a h 8 4 (am_df 8)) K :=
  nB x hN (fun h2 x2 k2 => k h2 ⟨x2, k2, Int.le_refl _, by omega⟩)
theorem zT {hb : AH} (x : BZ (am_h0 L xs) hb h a v N M bs) (hN : N < -6000) (k : ∀ h2, TS h2 (am_n h) (am_n h + 1) bs → KX (am_h0 L xs) h2 (N + 2) → KpO (am_n hb) hb h2 → am_n hb ≤ am_n h → am_n h2 = am_n h + 2 → K 0 (am_n h) h2) : am_call (d + 5) 133 [(2, a)] h K := by
  have xb := x.b
  have kn := x.k.n
  exact tS x.x hN (fun h2 t2 k2 f2 n2 => k h2 t2 k2 (x.k.tr (f2.le kn)) kn n2)
theorem TS.ko {n s w : Int} {h2 : AH} {ts : List Int} (x : TS h s w ts) (f : KpO n h h2) (hs : s < n) (hw : w < n) : TS h2 s w ts := by
  obtain ⟨t1, l1, m1⟩ := f.c s hs
  obtain ⟨t2, l2, m2⟩ := f.c w hw
  have fn := f.n
  have s1 := x.s1
  have w1 := x.w1
  exact ⟨by rw [t1]; exact x.t, (m1 0).trans x.v0, (m1 1).trans x.c, by rw [t2]; exact x.wt, l2.trans x.l, by omega, by omega, x.ns, fun i hi => (m2 i).trans (x.b i hi)⟩
end
