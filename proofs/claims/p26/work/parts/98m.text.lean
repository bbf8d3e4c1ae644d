/-! ===== made texts: builders and what they write ===== -/
theorem am_t_cp {h : AH} {a i b j n q : Int} : am_t (am_cp h a i b j n) q = am_t h q := rfl
theorem am_l_cp {h : AH} {a i b j n q : Int} : am_l (am_cp h a i b j n) q = am_l h q := rfl
theorem am_n_cp {h : AH} {a i b j n : Int} : am_n (am_cp h a i b j n) = am_n h := rfl
/-- cells other than a and v keep what they hold -/
def FP (a v : Int) (h h' : AH) : Prop := am_n h ≤ am_n h' ∧ am_sl h' = am_sl h ∧ (∀ j, am_sx h' j = am_sx h j) ∧ (∀ b, b < am_n h → am_t h' b = am_t h b ∧ am_l h' b = am_l h b) ∧ ∀ b, b < am_n h → ¬ b = a → ¬ b = v → ∀ i, am_m h' b i = am_m h b i
theorem FP.rf {a v : Int} {h : AH} : FP a v h h := ⟨Int.le_refl _, rfl, fun _ => rfl, fun _ _ => ⟨rfl, rfl⟩, fun _ _ _ _ _ => rfl⟩
/-- the second value is the first, or new -/
theorem FP.tr {a v v2 : Int} {h h1 h2 : AH} (x : FP a v h h1) (hv : v2 = v ∨ am_n h ≤ v2) (y : FP a v2 h1 h2) : FP a v h h2 := by
  obtain ⟨x1, x2, x3, x4, x5⟩ := x
  obtain ⟨y1, y2, y3, y4, y5⟩ := y
  refine ⟨by omega, y2.trans x2, fun j => (y3 j).trans (x3 j), fun b hb => ?_, fun b hb n1 n2 i => ?_⟩
  · obtain ⟨e1, e2⟩ := x4 b hb
    obtain ⟨e3, e4⟩ := y4 b (by omega)
    exact ⟨e3.trans e1, e4.trans e2⟩
  · exact (y5 b (by omega) n1 (by rcases hv with e | e <;> omega) i).trans (x5 b hb n1 n2 i)
theorem FP.w {a v i x : Int} {h h1 : AH} (f : FP a v h h1) : FP a v h (am_w h1 a i x) := by
  obtain ⟨x1, x2, x3, x4, x5⟩ := f
  exact ⟨x1, x2, x3, x4, fun b hb n1 n2 j => by rw [am_m_w, if_neg (fun z => n1 z.1)]; exact x5 b hb n1 n2 j⟩
theorem FP.w2 {a v v2 i x : Int} {h h1 : AH} (f : FP a v h h1) (hv : v2 = v ∨ am_n h ≤ v2) : FP a v h (am_w h1 v2 i x) := by
  obtain ⟨x1, x2, x3, x4, x5⟩ := f
  exact ⟨x1, x2, x3, x4, fun b hb n1 n2 j => by rw [am_m_w, if_neg (fun z => by rcases hv with e | e <;> omega)]; exact x5 b hb n1 n2 j⟩
theorem FP.cp {a v v2 s i j n : Int} {h h1 : AH} (f : FP a v h h1) (hv : v2 = v ∨ am_n h ≤ v2) : FP a v h (am_cp h1 s i v2 j n) := by
  obtain ⟨x1, x2, x3, x4, x5⟩ := f
  exact ⟨x1, x2, x3, x4, fun b hb n1 n2 k => by rw [am_m_cp, if_neg (fun z => by rcases hv with e | e <;> omega)]; exact x5 b hb n1 n2 k⟩
theorem FP.al {a v n : Int} {t : Nat} {f : Int → Int} {h h1 : AH} (x : FP a v h h1) : FP a v h (am_a h1 t n f) := by
  obtain ⟨x1, x2, x3, x4, x5⟩ := x
  refine ⟨by show am_n h ≤ am_n h1 + 1; omega, x2, x3, fun b hb => ?_, fun b hb n1 n2 i => ?_⟩
  · obtain ⟨e1, e2⟩ := x4 b hb
    have hne : ¬ b = am_n h1 := by omega
    exact ⟨(if_neg hne).trans e1, (if_neg hne).trans e2⟩
  · have hne : ¬ b = am_n h1 := by omega
    exact (if_neg hne).trans (x5 b hb n1 n2 i)
/-- the bytes of a row -/
def YB (h : AH) (w : Int) (bs : List Int) : Prop := ∀ i : Nat, i < bs.length → am_m h w (i : Int) = bs.getD i 0
/-- a builder at a, its row at v, what it has written -/
def TB (h : AH) (a v : Int) (bs : List Int) : Prop := (am_t h a = 8) ∧ (am_m h a 0 = v) ∧ (am_m h a 1 = 0) ∧ (am_m h a 3 = (bs.length : Int)) ∧ (am_t h v = 21) ∧ ((bs.length : Int) ≤ am_l h v) ∧ (am_l h v ≤ 4000) ∧ (a < am_n h) ∧ (v < am_n h) ∧ (¬ a = -1) ∧ (¬ v = -1) ∧ (¬ a = v) ∧ (YB h v bs)
theorem TB.t {h : AH} {a v : Int} {bs : List Int} (x : TB h a v bs) : am_t h a = 8 := x.1
theorem TB.v0 {h : AH} {a v : Int} {bs : List Int} (x : TB h a v bs) : am_m h a 0 = v := x.2.1
theorem TB.c {h : AH} {a v : Int} {bs : List Int} (x : TB h a v bs) : am_m h a 1 = 0 := x.2.2.1
theorem TB.n {h : AH} {a v : Int} {bs : List Int} (x : TB h a v bs) : am_m h a 3 = (bs.length : Int) := x.2.2.2.1
theorem TB.vt {h : AH} {a v : Int} {bs : List Int} (x : TB h a v bs) : am_t h v = 21 := x.2.2.2.2.1
theorem TB.l1 {h : AH} {a v : Int} {bs : List Int} (x : TB h a v bs) : (bs.length : Int) ≤ am_l h v := x.2.2.2.2.2.1
theorem TB.l2 {h : AH} {a v : Int} {bs : List Int} (x : TB h a v bs) : am_l h v ≤ 4000 := x.2.2.2.2.2.2.1
theorem TB.a1 {h : AH} {a v : Int} {bs : List Int} (x : TB h a v bs) : a < am_n h := x.2.2.2.2.2.2.2.1
theorem TB.v1 {h : AH} {a v : Int} {bs : List Int} (x : TB h a v bs) : v < am_n h := x.2.2.2.2.2.2.2.2.1
theorem TB.na {h : AH} {a v : Int} {bs : List Int} (x : TB h a v bs) : ¬ a = -1 := x.2.2.2.2.2.2.2.2.2.1
theorem TB.nv {h : AH} {a v : Int} {bs : List Int} (x : TB h a v bs) : ¬ v = -1 := x.2.2.2.2.2.2.2.2.2.2.1
theorem TB.av {h : AH} {a v : Int} {bs : List Int} (x : TB h a v bs) : ¬ a = v := x.2.2.2.2.2.2.2.2.2.2.2.1
theorem TB.b {h : AH} {a v : Int} {bs : List Int} (x : TB h a v bs) : YB h v bs := x.2.2.2.2.2.2.2.2.2.2.2.2
/-- a text at s, its row at w -/
def TS (h : AH) (s w : Int) (bs : List Int) : Prop := (am_t h s = 9 ∨ am_t h s = 18) ∧ (am_m h s 0 = w) ∧ (am_m h s 1 = 0) ∧ (am_t h w = 21 ∨ am_t h w = 26) ∧ (am_l h w = (bs.length : Int)) ∧ (s < am_n h) ∧ (w < am_n h) ∧ (¬ s = -1) ∧ (YB h w bs)
theorem TS.t {h : AH} {s w : Int} {bs : List Int} (x : TS h s w bs) : am_t h s = 9 ∨ am_t h s = 18 := x.1
theorem TS.v0 {h : AH} {s w : Int} {bs : List Int} (x : TS h s w bs) : am_m h s 0 = w := x.2.1
theorem TS.c {h : AH} {s w : Int} {bs : List Int} (x : TS h s w bs) : am_m h s 1 = 0 := x.2.2.1
theorem TS.wt {h : AH} {s w : Int} {bs : List Int} (x : TS h s w bs) : am_t h w = 21 ∨ am_t h w = 26 := x.2.2.2.1
theorem TS.l {h : AH} {s w : Int} {bs : List Int} (x : TS h s w bs) : am_l h w = (bs.length : Int) := x.2.2.2.2.1
theorem TS.s1 {h : AH} {s w : Int} {bs : List Int} (x : TS h s w bs) : s < am_n h := x.2.2.2.2.2.1
theorem TS.w1 {h : AH} {s w : Int} {bs : List Int} (x : TS h s w bs) : w < am_n h := x.2.2.2.2.2.2.1
theorem TS.ns {h : AH} {s w : Int} {bs : List Int} (x : TS h s w bs) : ¬ s = -1 := x.2.2.2.2.2.2.2.1
theorem TS.b {h : AH} {s w : Int} {bs : List Int} (x : TS h s w bs) : YB h w bs := x.2.2.2.2.2.2.2.2
theorem TS.fp {h h' : AH} {a v s w : Int} {bs : List Int} (x : TS h s w bs) (f : FP a v h h') (h1 : ¬ s = a) (h2 : ¬ s = v) (h3 : ¬ w = a) (h4 : ¬ w = v) : TS h' s w bs := by
  obtain ⟨f1, f2, f3, f4, f5⟩ := f
  obtain ⟨e1, e2⟩ := f4 s x.s1
  obtain ⟨e3, e4⟩ := f4 w x.w1
  exact ⟨by rw [e1]; exact x.t, (f5 s x.s1 h1 h2 0).trans x.v0, (f5 s x.s1 h1 h2 1).trans x.c, by rw [e3]; exact x.wt, e4.trans x.l, by have := x.s1; omega, by have := x.w1; omega, x.ns, fun i hi => (f5 w x.w1 h3 h4 i).trans (x.b i hi)⟩
theorem TB.fp {h h' : AH} {a2 v2 a v : Int} {bs : List Int} (x : TB h a v bs) (f : FP a2 v2 h h') (h1 : ¬ a = a2) (h2 : ¬ a = v2) (h3 : ¬ v = a2) (h4 : ¬ v = v2) : TB h' a v bs := by
  obtain ⟨f1, f2, f3, f4, f5⟩ := f
  obtain ⟨e1, e2⟩ := f4 a x.a1
  obtain ⟨e3, e4⟩ := f4 v x.v1
  have q := f5 a x.a1 h1 h2
  exact ⟨e1.trans x.t, (q 0).trans x.v0, (q 1).trans x.c, (q 3).trans x.n, e3.trans x.vt, by rw [e4]; exact x.l1, by rw [e4]; exact x.l2, by have := x.a1; omega, by have := x.v1; omega, x.na, x.nv, x.av, fun i hi => (f5 v x.v1 h3 h4 i).trans (x.b i hi)⟩
theorem shl0 {x : Int} (h0 : 0 ≤ x) (h1 : x < 2147483648) : am_shl x 0 = x := by
  have e1 : am_shl x 0 = ((BitVec.ofInt 32 x) <<< 0).toInt := rfl
  rw [e1]
  simp only [BitVec.shiftLeft_zero, BitVec.toInt_ofInt]
  rw [Int.bmod_eq_of_le] <;> omega
theorem d140 {d : Nat} {a v : Int} {bs : List Int} {h : AH} {K : AK} (x : TB h a v bs) (k : K 0 1 h) : am_call d 140 [(2, a)] h K :=
  v140 ⟨fun z => absurd z (by decide), fun _ => ⟨x.t, fun _ => ⟨Or.inr rfl, k⟩, fun z => absurd x.c z⟩⟩
theorem d141 {d : Nat} {a v : Int} {bs : List Int} {h : AH} {K : AK} (x : TB h a v bs) (k : K 0 (bs.length : Int) h) : am_call d 141 [(2, a)] h K :=
  v141 ⟨x.t, by rw [x.n]; exact k⟩
theorem d2 {d : Nat} {s w : Int} {bs : List Int} {h : AH} {K : AK} (x : TS h s w bs) (k : K 0 0 h) : am_call d 2 [(2, s)] h K :=
  u2 ⟨fun z => absurd z (by decide), fun _ => ⟨x.t, by rw [x.c]; decide, by rw [x.c]; exact k⟩⟩
theorem d5 {d : Nat} {s w : Int} {bs : List Int} {h : AH} {K : AK} (x : TS h s w bs) (k : K 0 1 h) : am_call d 5 [(2, s)] h K :=
  u5 ⟨fun z => absurd z (by decide), fun _ => ⟨x.t, fun _ => ⟨Or.inr rfl, k⟩, fun z => absurd x.c z⟩⟩
theorem d6 {d : Nat} {s w : Int} {bs : List Int} {h : AH} {K : AK} (x : TS h s w bs) (hl : bs.length < 4096) (k : K 0 (bs.length : Int) h) : am_call (d + 1) 6 [(2, s)] h K := by
  refine u6 ⟨x.t, by rw [x.v0]; have := x.wt; omega, x.t, d2 x (okx ?_)⟩
  rw [x.v0, x.l, shr0 (by omega) (by omega)]
  exact k
theorem d142 {d : Nat} {a v n : Int} {bs : List Int} {h : AH} {K : AK} (x : TB h a v bs) (hn : 0 ≤ n ∧ n ≤ 4000) (hl : am_l h v < n) (k : ∀ c, c = max n (2 * am_l h v + 2) → K 0 c h) : am_call (d + 2) 142 [(2, a), (0, n)] h K := by
  have q0 := x.l1
  have q1 := x.l2
  refine v142 ⟨x.t, by rw [x.v0, x.vt]; decide, x.t, x.t, ?_⟩
  rw [x.v0, x.c, shl0 (by omega) (by omega), show am_shl 2 0 = 2 from rfl]
  have e1 : w32 (n - am_l h v) = n - am_l h v := w32_id (by omega) (by omega)
  have e2 : w32 (am_l h v + 2) = am_l h v + 2 := w32_id (by omega) (by omega)
  rw [e1, e2]
  have e3 : w32 (am_l h v + max (n - am_l h v) (am_l h v + 2)) = max n (2 * am_l h v + 2) := by
    rw [w32_id (by omega) (by omega)]
    omega
  refine v151 ⟨fun _ => ⟨fun z => ?_, fun _ => ?_⟩, fun z => ?_⟩
  · rw [e3] at z
    omega
  · rw [e3]
    refine okx ⟨fun z => by omega, fun _ => ⟨x.t, ?_⟩⟩
    rw [x.c, shr0 (by omega) (by omega)]
    exact k _ rfl
  · rw [e3] at z
    omega
/-- what a row that has grown looks like -/
theorem d149 {d : Nat} {v c : Int} {h : AH} {K : AK} (vt : am_t h v = 21) (hv : v < am_n h) (l0 : 0 ≤ am_l h v) (hc : am_l h v < c) (hc2 : c ≤ 4096) (hf : am_fr h) (nn : ¬ am_n h = -1) (k : K 0 (am_n h) (am_cp (am_a h 21 c (fun _ => 0)) v 0 (am_n h) 0 (am_l h v))) : am_call d 149 [(2, v), (0, c)] h K := by
  have ne : ¬ v = am_n h := by omega
  have t1 : am_t (am_a h 21 c (fun _ => 0)) v = 21 := by rw [am_t_a, if_neg ne]; exact vt
  have l1 : am_l (am_a h 21 c (fun _ => 0)) v = am_l h v := by rw [am_l_a, if_neg ne]
  have t2 : am_t (am_a h 21 c (fun _ => 0)) (am_n h) = 21 := by rw [am_t_a, if_pos rfl]
  have l2 : am_l (am_a h 21 c (fun _ => 0)) (am_n h) = c := by rw [am_l_a, if_pos rfl]
  refine v149 ⟨by rw [vt]; decide, fun z => by omega, fun _ => ⟨⟨⟨⟨by omega, hc2⟩, hf⟩, Nat.le_refl _, by omega⟩, nn, by rw [t1]; decide, ⟨Or.inl t1, t2, ne, ?_, Int.le_refl _, ?_, Int.le_refl _, ?_⟩, ?_⟩⟩
  · rw [l1]; omega
  · rw [l1]; omega
  · rw [l1, l2]; omega
  · rw [l1, show min (am_l h v) c = am_l h v by omega]
    exact k
/-- room for n bytes -/
theorem d136 {d : Nat} {a v n : Int} {bs : List Int} {h : AH} {K : AK} (x : TB h a v bs) (hn : 0 ≤ n ∧ n ≤ 2000) (hf : am_fr h) (nn : ¬ am_n h = -1) (k : ∀ h2 v2, TB h2 a v2 bs → n ≤ am_l h2 v2 → FP a v h h2 → am_n h2 ≤ am_n h + 1 → (v2 = v ∨ am_n h ≤ v2) → K 0 0 h2) : am_call (d + 3) 136 [(2, a), (0, n)] h K := by
  have q0 := x.l1
  have q1 := x.l2
  have q2 := x.a1
  have q3 := x.v1
  refine v136 ⟨x.t, by rw [x.v0, x.vt]; decide, x.t, ?_⟩
  rw [x.v0, x.c, shr0 (by omega) (by omega)]
  have e1 : w32 (n - am_l h v) = n - am_l h v := w32_id (by omega) (by omega)
  rw [e1]
  refine ⟨fun z => ⟨x.t, x.t, d142 x (by omega) (by omega) (fun c hc => okx ⟨x.t, ⟨by decide, by decide⟩, ?_⟩)⟩, fun z => k h v x (by omega) FP.rf (by omega) (Or.inl rfl)⟩
  rw [x.c, shl0 (by omega) (by omega)]
  have hca : c ≤ 4000 := by omega
  refine d149 x.vt x.v1 (by omega) (by omega) (by omega) hf nn (okx ⟨?_, ?_⟩)
  · rw [am_t_cp, am_t_a, if_neg (by omega)]
    exact x.t
  have na : ¬ a = am_n h := by omega
  have nv : ¬ v = am_n h := by omega
  refine k _ (am_n h) ⟨?_, ?_, ?_, ?_, ?_, ?_, ?_, ?_, ?_, x.na, nn, na, fun i hi => ?_⟩ ?_ ((FP.al FP.rf).cp (Or.inr (Int.le_refl _))).w ?_ (Or.inr (Int.le_refl _))
  · rw [am_t_w, am_t_cp, am_t_a, if_neg na]; exact x.t
  · rw [am_m_w, if_pos ⟨rfl, rfl⟩]
  · rw [am_m_w, if_neg (fun z => by omega), am_m_cp, if_neg (fun z => na z.1), am_m_a, if_neg na]; exact x.c
  · rw [am_m_w, if_neg (fun z => by omega), am_m_cp, if_neg (fun z => na z.1), am_m_a, if_neg na]; exact x.n
  · rw [am_t_w, am_t_cp, am_t_a, if_pos rfl]
  · rw [am_l_w, am_l_cp, am_l_a, if_pos rfl]; omega
  · rw [am_l_w, am_l_cp, am_l_a, if_pos rfl]; omega
  · rw [am_n_w, am_n_cp, am_n_a]; omega
  · rw [am_n_w, am_n_cp, am_n_a]; omega
  · rw [am_m_w, if_neg (fun z => by omega), am_m_cp, if_pos ⟨rfl, by omega, by omega⟩, am_m_a, if_neg nv]
    have := x.b i hi
    rw [← this]
    congr 1
    omega
  · rw [am_l_w, am_l_cp, am_l_a, if_pos rfl]; omega
  · rw [am_n_w, am_n_cp, am_n_a]; omega
theorem getD_app {a b : List Int} {i : Nat} (h : a.length ≤ i) : (a ++ b).getD i 0 = b.getD (i - a.length) 0 := by
  simp only [List.getD_eq_getElem?_getD]
  rw [List.getElem?_append_right h]
theorem getD_app0 {a b : List Int} {i : Nat} (h : i < a.length) : (a ++ b).getD i 0 = a.getD i 0 := by
  simp only [List.getD_eq_getElem?_getD]
  rw [List.getElem?_append_left h]
/-- a text written behind -/
theorem d135 {d : Nat} {a v s w : Int} {bs ts : List Int} {h : AH} {K : AK} (x : TB h a v bs) (y : TS h s w ts) (nsa : ¬ s = a) (nsv : ¬ s = v) (nwa : ¬ w = a) (nwv : ¬ w = v) (hn : bs.length + ts.length ≤ 2000) (hf : am_fr h) (nn : ¬ am_n h = -1)
    (k : ∀ h2 v2, TB h2 a v2 (bs ++ ts) → FP a v h h2 → am_n h2 ≤ am_n h + 1 → (v2 = v ∨ am_n h ≤ v2) → K 0 a h2) : am_call (d + 4) 135 [(2, a), (2, s)] h K := by
  refine v135 ⟨fun z => absurd z y.ns, fun _ => ⟨y.t, d6 y (by omega) (okx ⟨x.t, ⟨x.t, by decide, by decide⟩, ?_⟩)⟩⟩
  rw [x.n, show w32 ((bs.length : Int) + (ts.length : Int)) = (bs.length : Int) + (ts.length : Int) from w32_id (by omega) (by omega)]
  refine d136 x (by omega) hf nn (fun h2 v2 x2 l2 f2 n2 o2 => okx ⟨x2.t, x2.t, ?_⟩)
  have sn := y.s1
  have wn := y.w1
  have y2 : TS h2 s w ts := y.fp f2 nsa nsv nwa nwv
  have nwv2 : ¬ w = v2 := by rcases o2 with e | e <;> omega
  have nsv2 : ¬ s = v2 := by rcases o2 with e | e <;> omega
  rw [x2.n]
  refine v143 ⟨x2.t, v138 ⟨fun z => absurd z (by decide), fun _ => ⟨x2.t, y2.t, d2 y2 (okx ⟨fun _ => okx ⟨x2.t, x2.t, y2.t, ?_⟩, fun z => absurd x2.c z⟩)⟩⟩⟩
  rw [x2.v0, x2.c]
  have hb := x2.l2
  have q2 := x2.l1
  refine v106 ⟨y2.t, d2 y2 (okx ⟨fun _ => ?_, fun z => absurd rfl z⟩)⟩
  rw [y2.v0, y2.l, shl0 (by omega) (by omega)]
  refine ⟨y2.t, y2.t, by have := y2.wt; omega, ⟨y2.wt, x2.vt, nwv2, by omega, by omega, by omega, by omega, by omega⟩, okx (okx ⟨?_, ?_, ?_⟩)⟩
  · rw [am_t_cp]; exact x2.t
  · rw [am_t_cp]; exact x2.t
  have nav := x2.av
  have e3 : am_m (am_cp h2 w 0 v2 (bs.length : Int) (ts.length : Int)) a 3 = (bs.length : Int) := by rw [am_m_cp, if_neg (fun z => nav z.1)]; exact x2.n
  rw [e3, show w32 ((bs.length : Int) + (ts.length : Int)) = (bs.length : Int) + (ts.length : Int) from w32_id (by omega) (by omega)]
  have nv2 : ¬ v2 = a := fun z => nav z.symm
  refine k _ v2 ⟨?_, ?_, ?_, ?_, ?_, ?_, ?_, ?_, ?_, x2.na, x2.nv, nav, fun i hi => ?_⟩ ((f2.cp o2).w) ?_ o2
  · rw [am_t_w, am_t_cp]; exact x2.t
  · rw [am_m_w, if_neg (fun z => by omega), am_m_cp, if_neg (fun z => nav z.1)]; exact x2.v0
  · rw [am_m_w, if_neg (fun z => by omega), am_m_cp, if_neg (fun z => nav z.1)]; exact x2.c
  · rw [am_m_w, if_pos ⟨rfl, rfl⟩, List.length_append]; omega
  · rw [am_t_w, am_t_cp]; exact x2.vt
  · rw [am_l_w, am_l_cp, List.length_append]; omega
  · rw [am_l_w, am_l_cp]; exact x2.l2
  · rw [am_n_w, am_n_cp]; exact x2.a1
  · rw [am_n_w, am_n_cp]; exact x2.v1
  · rw [am_m_w, if_neg (fun z => nv2 z.1), am_m_cp]
    rw [List.length_append] at hi
    by_cases hlt : i < bs.length
    · rw [if_neg (by omega), getD_app0 hlt]
      exact x2.b i hlt
    · rw [if_pos ⟨rfl, by omega, by omega⟩, getD_app (by omega), show (0 : Int) + ((i : Int) - (bs.length : Int)) = ((i - bs.length : Nat) : Int) by omega]
      exact y2.b _ (by omega)
  · rw [am_n_w, am_n_cp]; exact n2
theorem d129 {d : Nat} {a v s w : Int} {bs ts : List Int} {h : AH} {K : AK} (x : TB h a v bs) (y : TS h s w ts) (nsa : ¬ s = a) (nsv : ¬ s = v) (nwa : ¬ w = a) (nwv : ¬ w = v) (hn : bs.length + ts.length ≤ 2000) (hf : am_fr h) (nn : ¬ am_n h = -1)
    (k : ∀ h2 v2, TB h2 a v2 (bs ++ ts) → FP a v h h2 → am_n h2 ≤ am_n h + 1 → (v2 = v ∨ am_n h ≤ v2) → K 0 a h2) : am_call (d + 5) 129 [(2, a), (2, s)] h K :=
  v129 ⟨⟨x.t, by decide, by decide⟩, d135 x y nsa nsv nwa nwv hn hf nn (fun h2 v2 x2 f2 n2 o2 => okx (k h2 v2 x2 f2 n2 o2))⟩
/-! ===== numbers written ===== -/
/-- how many digits a number below 10000 has; they -/
def dn (x : Int) : Int := if x < 10 then 1 else if x < 100 then 2 else if x < 1000 then 3 else 4
def dg (x : Int) : List Int := if x < 10 then [48 + x] else if x < 100 then [48 + x / 10, 48 + x % 10] else if x < 1000 then [48 + x / 100, 48 + x % 100 / 10, 48 + x % 100 % 10] else [48 + x / 100 / 10, 48 + x / 100 % 10, 48 + x % 100 / 10, 48 + x % 100 % 10]
theorem dg_len (x : Int) : ((dg x).length : Int) = dn x := by
  unfold dg dn
  by_cases h1 : x < 10
  · rw [if_pos h1, if_pos h1]; rfl
  · rw [if_neg h1, if_neg h1]
    by_cases h2 : x < 100
    · rw [if_pos h2, if_pos h2]; rfl
    · rw [if_neg h2, if_neg h2]
      by_cases h3 : x < 1000
      · rw [if_pos h3, if_pos h3]; rfl
      · rw [if_neg h3, if_neg h3]; rfl
theorem dn_rg (x : Int) : 1 ≤ dn x ∧ dn x ≤ 4 := by
  unfold dn
  by_cases h1 : x < 10
  · rw [if_pos h1]; decide
  · rw [if_neg h1]
    by_cases h2 : x < 100
    · rw [if_pos h2]; decide
    · rw [if_neg h2]
      by_cases h3 : x < 1000
      · rw [if_pos h3]; decide
      · rw [if_neg h3]; decide
theorem i2b_id {x : Int} (h0 : 0 ≤ x) (h1 : x < 128) : am_i2b x = x := by
  unfold am_i2b
  rw [Int.bmod_eq_of_le] <;> omega
/-- the rows of digits -/
def DG (h : AH) : Prop := (am_t h (-300000073) = 26 ∧ am_l h (-300000073) = 100 ∧ ∀ i : Int, 0 ≤ i → i < 100 → am_m h (-300000073) i = 48 + i % 10) ∧ am_t h (-300000075) = 26 ∧ am_l h (-300000075) = 100 ∧ ∀ i : Int, 0 ≤ i → i < 100 → am_m h (-300000075) i = 48 + i / 10
theorem DG.w {h : AH} {v i x : Int} (g : DG h) (hv : -300000000 < v) : DG (am_w h v i x) := by
  obtain ⟨⟨a1, a2, a3⟩, b1, b2, b3⟩ := g
  exact ⟨⟨a1, a2, fun j h0 h1 => by rw [am_m_w, if_neg (fun z => by omega)]; exact a3 j h0 h1⟩, b1, b2, fun j h0 h1 => by rw [am_m_w, if_neg (fun z => by omega)]; exact b3 j h0 h1⟩
theorem DG.fp {h h' : AH} {a v : Int} (g : DG h) (f : FP a v h h') (ha : -300000000 < a) (hv : -300000000 < v) (hn : -300000000 < am_n h) : DG h' := by
  obtain ⟨⟨a1, a2, a3⟩, b1, b2, b3⟩ := g
  obtain ⟨f1, f2, f3, f4, f5⟩ := f
  have e1 := f4 (-300000073) (by omega)
  have e2 := f4 (-300000075) (by omega)
  exact ⟨⟨e1.1.trans a1, e1.2.trans a2, fun j h0 h1 => (f5 _ (by omega) (by omega) (by omega) j).trans (a3 j h0 h1)⟩, e2.1.trans b1, e2.2.trans b2, fun j h0 h1 => (f5 _ (by omega) (by omega) (by omega) j).trans (b3 j h0 h1)⟩
def wd2 (h : AH) (v p x : Int) : AH := if x < 10 then am_w h v (p - 1) (48 + x) else am_w (am_w h v (p - 1) (48 + x % 10)) v (p - 2) (48 + x / 10)
def wd4 (h : AH) (v p x : Int) : AH := if x < 100 then wd2 h v p x else wd2 (am_w (am_w h v (p - 1) (48 + x % 100 % 10)) v (p - 2) (48 + x % 100 / 10)) v (p - 2) (x / 100)
theorem d145 {d : Nat} {x : Int} {h : AH} {K : AK} (hx : 0 ≤ x ∧ x < 10000) (k : K 0 (dn x) h) : am_call d 145 [(0, x)] h K := by
  refine v145 ⟨fun z => by omega, fun _ => ?_⟩
  rw [w32_id (x := -x) (by omega) (by omega)]
  unfold dn at k
  refine v145_16 ⟨fun _ => ⟨fun z => ?_, fun z => ?_⟩, fun z => absurd z (by decide)⟩
  · rw [if_pos (by omega)] at k
    exact k
  rw [if_neg (by omega)] at k
  refine v145_16 ⟨fun _ => ⟨fun z => ?_, fun z => ?_⟩, fun z => absurd (show w32 (1 + 1) < 10 by decide) z⟩
  · rw [show w32 (10 * -10) = -100 by decide] at z
    rw [if_pos (by omega)] at k
    exact k
  rw [show w32 (10 * -10) = -100 by decide] at z ⊢
  rw [if_neg (by omega)] at k
  refine v145_16 ⟨fun _ => ⟨fun z => ?_, fun z => ?_⟩, fun z => absurd (show w32 (w32 (1 + 1) + 1) < 10 by decide) z⟩
  · rw [show w32 (10 * -100) = -1000 by decide] at z
    rw [if_pos (by omega)] at k
    exact k
  rw [show w32 (10 * -100) = -1000 by decide] at z ⊢
  rw [if_neg (by omega)] at k
  refine v145_16 ⟨fun _ => ⟨fun z => ?_, fun z => ?_⟩, fun z => absurd (show w32 (w32 (w32 (1 + 1) + 1) + 1) < 10 by decide) z⟩
  · exact k
  · rw [show w32 (10 * -1000) = -10000 by decide] at z
    omega
/-- the last two digits -/
theorem d144_2 {d : Nat} {x v p : Int} {y1 y3 y4 : AV} {h : AH} {K : AK} (g : DG h) (hx : 0 ≤ x ∧ x < 100) (vt : am_t h v = 21) (hv : -300000000 < v) (hp : dn x ≤ p) (hl : p ≤ am_l h v) (hl2 : am_l h v ≤ 4096) (k : ∀ r, K 0 r (wd2 h v p x)) : WP d 144 (22, [(0, -x), y1, (2, v), y3, y4, (0, p), (0, 0)], [], h, 0, 0) K := by
  obtain ⟨⟨a1, a2, a3⟩, b1, b2, b3⟩ := id g
  have hd := dn_rg x
  have e0 : w32 (- -x) = x := by rw [w32_id (by omega) (by omega)]; omega
  have e1 : w32 (p + -1) = p - 1 := by rw [w32_id (by omega) (by omega)]; omega
  have e2 : w32 (p - 1 + -1) = p - 2 := by rw [w32_id (by omega) (by omega)]; omega
  have q1 : am_i2b (am_m h (-300000073) x) = 48 + x % 10 := by
    rw [a3 x (by omega) (by omega), i2b_id (by omega) (by omega)]
  have q2 : ∀ y, am_i2b (am_m (am_w h v (p - 1) y) (-300000075) x) = 48 + x / 10 := fun y => by
    rw [am_m_w, if_neg (fun z => by omega), b3 x (by omega) (by omega), i2b_id (by omega) (by omega)]
  refine v144_22 ?_
  rw [e0, e1, e2, q1, q2]
  refine ⟨fun _ => ⟨⟨Or.inr a1, by omega, by omega⟩, ⟨vt, by omega, by omega⟩, fun z => ⟨⟨Or.inr b1, by omega, ?_⟩, ⟨vt, ?_, ?_⟩, fun _ => ?_, fun z => absurd rfl z⟩, fun z => ⟨fun _ => ?_, fun z => absurd rfl z⟩⟩, fun z => by omega⟩
  · rw [am_l_w]; omega
  · have : dn x = 2 := by
      unfold dn
      rw [if_neg (by omega), if_pos (by omega)]
    omega
  · rw [am_l_w]; omega
  · have := k (p - 2)
    unfold wd2 at this
    rw [if_neg (by omega)] at this
    exact this
  · have := k (p - 1)
    unfold wd2 at this
    rw [if_pos (by omega)] at this
    rw [show x % 10 = x by omega]
    exact this
theorem d144 {d : Nat} {x v p : Int} {h : AH} {K : AK} (g : DG h) (hx : 0 ≤ x ∧ x < 10000) (vt : am_t h v = 21) (hv : -300000000 < v) (hp : dn x ≤ p) (hl : p ≤ am_l h v) (hl2 : am_l h v ≤ 4096) (k : ∀ r, K 0 r (wd4 h v p x)) : am_call d 144 [(0, x), (0, p), (2, v)] h K := by
  refine v144 ⟨fun z => by omega, fun _ => ⟨fun _ => ?_, fun z => absurd rfl z⟩⟩
  have e0 : w32 (-x) = -x := w32_id (by omega) (by omega)
  rw [e0]
  by_cases h1 : x < 100
  · refine d144_2 g ⟨hx.1, h1⟩ vt hv hp hl hl2 (fun r => ?_)
    have := k r
    unfold wd4 at this
    rw [if_pos h1] at this
    exact this
  obtain ⟨⟨a1, a2, a3⟩, b1, b2, b3⟩ := id g
  have hd := dn_rg x
  have hd2 := dn_rg (x / 100)
  have hdx : dn x = dn (x / 100) + 2 := by
    unfold dn
    rw [if_neg (by omega), if_neg h1]
    by_cases h3 : x < 1000
    · rw [if_pos h3, if_pos (by omega)]; rfl
    · rw [if_neg h3, if_neg (by omega), if_pos (by omega)]; rfl
  have t0 : (-x).tdiv 100 = -(x / 100) := by
    rw [Int.neg_tdiv, Int.tdiv_eq_ediv_of_nonneg hx.1]
  have e1 : w32 (p + -1) = p - 1 := by rw [w32_id (by omega) (by omega)]; omega
  have e2 : w32 (p - 1 + -1) = p - 2 := by rw [w32_id (by omega) (by omega)]; omega
  have e3 : w32 (-(x / 100)) = -(x / 100) := w32_id (by omega) (by omega)
  have e4 : w32 (-(x / 100) * 100) = -(x / 100) * 100 := w32_id (by omega) (by omega)
  have e5 : w32 (-(x / 100) * 100 - -x) = x % 100 := by rw [w32_id (by omega) (by omega)]; omega
  have q1 : am_i2b (am_m h (-300000073) (x % 100)) = 48 + x % 100 % 10 := by
    rw [a3 _ (by omega) (by omega), i2b_id (by omega) (by omega)]
  have q2 : ∀ y, am_i2b (am_m (am_w h v (p - 1) y) (-300000075) (x % 100)) = 48 + x % 100 / 10 := fun y => by
    rw [am_m_w, if_neg (fun z => by omega), b3 _ (by omega) (by omega), i2b_id (by omega) (by omega)]
  refine v144_22 ⟨fun z => by omega, fun _ => ?_⟩
  rw [t0, e3, e4, e5, e1, e2, q1, q2]
  refine ⟨by decide, ⟨Or.inr a1, by omega, by omega⟩, ⟨vt, by omega, by omega⟩, ⟨Or.inr b1, by omega, ?_⟩, ⟨vt, by omega, ?_⟩, ?_⟩
  · rw [am_l_w]; omega
  · rw [am_l_w]; omega
  refine d144_2 ((g.w hv).w hv) ⟨by omega, by omega⟩ vt hv (by omega) ?_ ?_ (fun r => ?_)
  · rw [am_l_w, am_l_w]; omega
  · rw [am_l_w, am_l_w]; omega
  have := k r
  unfold wd4 at this
  rw [if_neg h1] at this
  exact this
/-- what wd2, wd4 leave as it is, and what they write -/
theorem wd2_t {h : AH} {v p x : Int} : (∀ b, am_t (wd2 h v p x) b = am_t h b ∧ am_l (wd2 h v p x) b = am_l h b) ∧ am_n (wd2 h v p x) = am_n h ∧ (∀ b i, ¬ b = v → am_m (wd2 h v p x) b i = am_m h b i) := by
  unfold wd2
  by_cases h1 : x < 10
  · rw [if_pos h1]
    exact ⟨fun b => ⟨rfl, rfl⟩, rfl, fun b i hb => by rw [am_m_w, if_neg (fun z => hb z.1)]⟩
  · rw [if_neg h1]
    exact ⟨fun b => ⟨rfl, rfl⟩, rfl, fun b i hb => by rw [am_m_w, if_neg (fun z => hb z.1), am_m_w, if_neg (fun z => hb z.1)]⟩
theorem wd4_t {h : AH} {v p x : Int} : (∀ b, am_t (wd4 h v p x) b = am_t h b ∧ am_l (wd4 h v p x) b = am_l h b) ∧ am_n (wd4 h v p x) = am_n h ∧ (∀ b i, ¬ b = v → am_m (wd4 h v p x) b i = am_m h b i) := by
  unfold wd4
  by_cases h1 : x < 100
  · rw [if_pos h1]
    exact wd2_t
  · rw [if_neg h1]
    obtain ⟨a, b, c⟩ := wd2_t (h := am_w (am_w h v (p - 1) (48 + x % 100 % 10)) v (p - 2) (48 + x % 100 / 10)) (v := v) (p := p - 2) (x := x / 100)
    exact ⟨fun q => ⟨(a q).1, (a q).2⟩, b, fun q i hq => by rw [c q i hq, am_m_w, if_neg (fun z => hq z.1), am_m_w, if_neg (fun z => hq z.1)]⟩
theorem FP.wd {a v v2 p x : Int} {h h1 : AH} (f : FP a v h h1) (hv : v2 = v ∨ am_n h ≤ v2) : FP a v h (wd4 h1 v2 p x) := by
  unfold wd4 wd2
  by_cases h1 : x < 100
  · rw [if_pos h1]
    by_cases h2 : x < 10
    · rw [if_pos h2]; exact f.w2 hv
    · rw [if_neg h2]; exact (f.w2 hv).w2 hv
  · rw [if_neg h1]
    by_cases h2 : x / 100 < 10
    · rw [if_pos h2]; exact ((f.w2 hv).w2 hv).w2 hv
    · rw [if_neg h2]; exact (((f.w2 hv).w2 hv).w2 hv).w2 hv
theorem wd4_b {h : AH} {v x : Int} {bs : List Int} (hx : 0 ≤ x ∧ x < 10000) (b : YB h v bs) : YB (wd4 h v ((bs.length : Int) + dn x) x) v (bs ++ dg x) := by
  intro i hi
  rw [List.length_append] at hi
  have hl := dg_len x
  by_cases hlt : i < bs.length
  · rw [getD_app0 hlt]
    have := b i hlt
    unfold wd4 wd2 dn
    by_cases h1 : x < 10
    · rw [if_pos (by omega), if_pos h1, if_pos h1, am_m_w, if_neg (fun z => by omega)]; exact this
    by_cases h2 : x < 100
    · rw [if_pos h2, if_neg h1, if_neg h1, if_pos h2, am_m_w, if_neg (fun z => by omega), am_m_w, if_neg (fun z => by omega)]; exact this
    by_cases h3 : x < 1000
    · rw [if_neg h2, if_pos (by omega), if_neg h1, if_neg h2, if_pos h3, am_m_w, if_neg (fun z => by omega), am_m_w, if_neg (fun z => by omega), am_m_w, if_neg (fun z => by omega)]; exact this
    · rw [if_neg h2, if_neg (by omega), if_neg h1, if_neg h2, if_neg h3, am_m_w, if_neg (fun z => by omega), am_m_w, if_neg (fun z => by omega), am_m_w, if_neg (fun z => by omega), am_m_w, if_neg (fun z => by omega)]; exact this
  · rw [getD_app (by omega)]
    obtain ⟨j, rfl⟩ : ∃ j, i = bs.length + j := ⟨i - bs.length, by omega⟩
    rw [show bs.length + j - bs.length = j by omega]
    have hj : (j : Int) < dn x := by omega
    unfold wd4 wd2
    unfold dn at hj ⊢
    unfold dg
    by_cases h1 : x < 10
    · rw [if_pos h1] at hj
      obtain rfl : j = 0 := by omega
      rw [if_pos (by omega), if_pos h1, if_pos h1, if_pos h1, am_m_w, if_pos ⟨rfl, by omega⟩]
      rfl
    by_cases h2 : x < 100
    · rw [if_neg h1, if_pos h2] at hj
      rw [if_pos h2, if_neg h1, if_neg h1, if_pos h2, if_neg h1, if_pos h2, am_m_w]
      match j, hj with
      | 0, _ => rw [if_pos ⟨rfl, by omega⟩]; rfl
      | 1, _ => rw [if_neg (fun z => by omega), am_m_w, if_pos ⟨rfl, by omega⟩]; rfl
    by_cases h3 : x < 1000
    · rw [if_neg h1, if_neg h2, if_pos h3] at hj
      rw [if_neg h2, if_pos (by omega), if_neg h1, if_neg h2, if_pos h3, if_neg h1, if_neg h2, if_pos h3, am_m_w]
      match j, hj with
      | 0, _ => rw [if_pos ⟨rfl, by omega⟩]; rfl
      | 1, _ => rw [if_neg (fun z => by omega), am_m_w, if_pos ⟨rfl, by omega⟩]; rfl
      | 2, _ => rw [if_neg (fun z => by omega), am_m_w, if_neg (fun z => by omega), am_m_w, if_pos ⟨rfl, by omega⟩]; rfl
    · rw [if_neg h1, if_neg h2, if_neg h3] at hj
      rw [if_neg h2, if_neg (by omega), if_neg h1, if_neg h2, if_neg h3, if_neg h1, if_neg h2, if_neg h3, am_m_w]
      match j, hj with
      | 0, _ => rw [if_pos ⟨rfl, by omega⟩]; rfl
      | 1, _ => rw [if_neg (fun z => by omega), am_m_w, if_pos ⟨rfl, by omega⟩]; rfl
      | 2, _ => rw [if_neg (fun z => by omega), am_m_w, if_neg (fun z => by omega), am_m_w, if_pos ⟨rfl, by omega⟩]; rfl
      | 3, _ => rw [if_neg (fun z => by omega), am_m_w, if_neg (fun z => by omega), am_m_w, if_neg (fun z => by omega), am_m_w, if_pos ⟨rfl, by omega⟩]; rfl
/-- a number written behind -/
theorem d134 {d : Nat} {a v x : Int} {bs : List Int} {h : AH} {K : AK} (t : TB h a v bs) (g : DG h) (hx : 0 ≤ x ∧ x < 10000) (ha : -300000000 < a) (hv : -300000000 < v) (hw : -300000000 < am_n h) (hn : bs.length + (dg x).length ≤ 2000) (hf : am_fr h) (nn : ¬ am_n h = -1)
    (k : ∀ h2 v2, TB h2 a v2 (bs ++ dg x) → FP a v h h2 → am_n h2 ≤ am_n h + 1 → (v2 = v ∨ am_n h ≤ v2) → K 0 a h2) : am_call (d + 4) 134 [(2, a), (0, x)] h K := by
  have hl := dg_len x
  have hd := dn_rg x
  refine v134 ⟨t.t, d145 hx (okx ⟨⟨t.t, by decide, by decide⟩, ?_⟩)⟩
  rw [t.n, show w32 ((bs.length : Int) + dn x) = (bs.length : Int) + dn x from w32_id (by omega) (by omega)]
  refine d136 t (by omega) hf nn (fun h2 v2 x2 l2 f2 n2 o2 => okx ⟨x2.t, d140 x2 (okx ⟨fun z => absurd z (by decide), fun _ => ⟨x2.t, ?_⟩⟩)⟩)
  have q2 := x2.l2
  have nav := x2.av
  have hv2 : -300000000 < v2 := by rcases o2 with e | e <;> omega
  rw [x2.v0]
  refine d144 (g.fp f2 ha hv hw) hx x2.vt hv2 (by omega) (by omega) (by omega) (fun r => okx ?_)
  obtain ⟨w1, w2, w3⟩ := wd4_t (h := h2) (v := v2) (p := (bs.length : Int) + dn x) (x := x)
  have nv2 : ¬ v2 = a := fun z => nav z.symm
  have hb2 := wd4_b hx x2.b
  have fw := FP.wd (p := (bs.length : Int) + dn x) (x := x) f2 o2
  generalize wd4 h2 v2 ((bs.length : Int) + dn x) x = h3 at w1 w2 w3 hb2 fw ⊢
  refine ⟨(w1 a).1.trans x2.t, k _ v2 ⟨?_, ?_, ?_, ?_, ?_, ?_, ?_, ?_, ?_, x2.na, x2.nv, nav, fun i hi => ?_⟩ fw.w ?_ o2⟩
  · rw [am_t_w]; exact (w1 a).1.trans x2.t
  · rw [am_m_w, if_neg (fun z => by omega), w3 _ _ nav]; exact x2.v0
  · rw [am_m_w, if_neg (fun z => by omega), w3 _ _ nav]; exact x2.c
  · rw [am_m_w, if_pos ⟨rfl, rfl⟩, List.length_append]; omega
  · rw [am_t_w]; exact (w1 v2).1.trans x2.vt
  · rw [am_l_w, (w1 v2).2, List.length_append]; omega
  · rw [am_l_w, (w1 v2).2]; exact x2.l2
  · rw [am_n_w, w2]; exact x2.a1
  · rw [am_n_w, w2]; exact x2.v1
  · rw [am_m_w, if_neg (fun z => nv2 z.1)]; exact hb2 i hi
  · rw [am_n_w, w2]; exact n2
theorem d130 {d : Nat} {a v x : Int} {bs : List Int} {h : AH} {K : AK} (t : TB h a v bs) (g : DG h) (hx : 0 ≤ x ∧ x < 10000) (ha : -300000000 < a) (hv : -300000000 < v) (hw : -300000000 < am_n h) (hn : bs.length + (dg x).length ≤ 2000) (hf : am_fr h) (nn : ¬ am_n h = -1)
    (k : ∀ h2 v2, TB h2 a v2 (bs ++ dg x) → FP a v h h2 → am_n h2 ≤ am_n h + 1 → (v2 = v ∨ am_n h ≤ v2) → K 0 a h2) : am_call (d + 5) 130 [(2, a), (0, x)] h K :=
  v130 ⟨⟨t.t, by decide, by decide⟩, d134 t g hx ha hv hw hn hf nn (fun h2 v2 x2 f2 n2 o2 => okx (k h2 v2 x2 f2 n2 o2))⟩
/-! ===== a builder made, read out; a text looked at ===== -/
theorem d131 {d : Nat} {a : Int} {h : AH} {K : AK} (t : am_t h a = 8) (c0 : am_m h a 3 = 0) (a1 : a < am_n h) (na : ¬ a = -1) (hf : am_fr h) (nn : ¬ am_n h = -1)
    (k : ∀ h2, TB h2 a (am_n h) [] → FP a a h h2 → am_n h2 = am_n h + 1 → K 0 0 h2) : am_call (d + 1) 131 [(2, a)] h K := by
  have ne : ¬ a = am_n h := by omega
  have t1 : am_t (am_a h 21 16 (fun _ => 0)) a = 8 := by rw [am_t_a, if_neg ne]; exact t
  refine v131 ⟨⟨na, by decide, by decide⟩, v139 ⟨na, fun z => absurd z (by decide), fun _ => ⟨⟨⟨⟨by decide, by decide⟩, hf⟩, by decide, by decide⟩, t1, ⟨t1, rfl⟩, okx (k _ ⟨?_, ?_, ?_, ?_, ?_, ?_, ?_, ?_, ?_, na, nn, ne, fun i hi => absurd hi (by simp)⟩ ((FP.al FP.rf).w.w) ?_)⟩⟩⟩
  · exact t1
  · rw [am_m_w, if_neg (fun z => by omega), am_m_w, if_pos ⟨rfl, rfl⟩]
  · rw [am_m_w, if_pos ⟨rfl, rfl⟩]
  · rw [am_m_w, if_neg (fun z => by omega), am_m_w, if_neg (fun z => by omega), am_m_a, if_neg ne]; exact c0
  · rw [am_t_w, am_t_w, am_t_a, if_pos rfl]
  · rw [am_l_w, am_l_w, am_l_a, if_pos rfl]; decide
  · rw [am_l_w, am_l_w, am_l_a, if_pos rfl]; decide
  · rw [am_n_w, am_n_w, am_n_a]; omega
  · rw [am_n_w, am_n_w, am_n_a]; omega
  · rw [am_n_w, am_n_w, am_n_a]
/-- n bytes of a row, as a new row -/
theorem d148 {d : Nat} {v n : Int} {h : AH} {K : AK} (vt : am_t h v = 21) (hv : v < am_n h) (hn : 0 ≤ n ∧ n ≤ am_l h v) (hl : am_l h v ≤ 4000) (hf : am_fr h) (nn : ¬ am_n h = -1)
    (k : ∀ h2, am_t h2 (am_n h) = 21 → am_l h2 (am_n h) = n → (∀ i : Int, 0 ≤ i → i < n → am_m h2 (am_n h) i = am_m h v i) → FP v v h h2 → (∀ i, am_m h2 v i = am_m h v i) → am_n h2 = am_n h + 1 → K 0 (am_n h) h2) : am_call (d + 2) 148 [(2, v), (0, 0), (0, n)] h K := by
  have ne : ¬ v = am_n h := by omega
  refine v148 ⟨fun _ => ⟨by rw [vt]; decide, fun z => ?_, fun z => ?_⟩, fun z => absurd rfl z⟩
  · refine ⟨⟨⟨vt, hf⟩, by decide, by omega⟩, by rw [am_t_a, if_pos rfl], k _ ?_ ?_ (fun i h0 h1 => ?_) (FP.al FP.rf) (fun i => ?_) ?_⟩
    · rw [am_t_a, if_pos rfl]
    · rw [am_l_a, if_pos rfl]; exact z.symm
    · rw [am_m_a, if_pos rfl]
    · rw [am_m_a, if_neg ne]
    · rw [am_n_a]
  · have e1 : w32 (n - 0) = n := by rw [w32_id (by omega) (by omega)]; omega
    have t1 : am_t (am_a h 21 n (fun _ => 0)) v = 21 := by rw [am_t_a, if_neg ne]; exact vt
    have l1 : am_l (am_a h 21 n (fun _ => 0)) v = am_l h v := by rw [am_l_a, if_neg ne]
    have t2 : am_t (am_a h 21 n (fun _ => 0)) (am_n h) = 21 := by rw [am_t_a, if_pos rfl]
    have l2 : am_l (am_a h 21 n (fun _ => 0)) (am_n h) = n := by rw [am_l_a, if_pos rfl]
    have e2 : w32 (am_l h v - 0) = am_l h v := by rw [w32_id (by omega) (by omega)]; omega
    refine ⟨⟨by decide, by decide⟩, v147 (v146 ⟨fun y => by omega, fun _ => okx ?_⟩)⟩
    rw [e1, l1, e2, show min (am_l h v) n = n by omega]
    refine ⟨⟨⟨⟨by omega, by omega⟩, hf⟩, by decide, by omega⟩, nn, by rw [t1]; decide, ⟨Or.inl t1, t2, ne, by omega, by omega, ?_, by omega, ?_⟩, okx (k _ ?_ ?_ (fun i h0 h1 => ?_) ?_ (fun i => ?_) ?_)⟩
    · omega
    · rw [l2]; omega
    · rw [am_t_cp]; exact t2
    · rw [am_l_cp]; exact l2
    · rw [am_m_cp, if_pos ⟨rfl, by omega, by omega⟩, am_m_a, if_neg ne, show (0 : Int) + (i - 0) = i by omega]
    · exact (FP.al FP.rf).cp (Or.inr (Int.le_refl _))
    · rw [am_m_cp, if_neg (fun z => ne z.1), am_m_a, if_neg ne]
    · rw [am_n_cp, am_n_a]
theorem d133 {d : Nat} {a v : Int} {bs : List Int} {h : AH} {K : AK} (x : TB h a v bs) (hf : am_fr h) (hf1 : ∀ h2, am_n h2 = am_n h + 1 → am_fr h2) (nn : ¬ am_n h = -1) (nn1 : ¬ am_n h + 1 = -1)
    (k : ∀ h2, TS h2 (am_n h) (am_n h + 1) bs → TB h2 a v bs → FP (am_n h) (am_n h) h h2 → am_t h2 (am_n h) = 9 → am_n h2 = am_n h + 2 → K 0 (am_n h) h2) : am_call (d + 5) 133 [(2, a)] h K := by
  have q1 := x.a1
  have q2 := x.v1
  have q3 := x.l1
  have q4 := x.l2
  have na : ¬ a = am_n h := by omega
  have nv : ¬ v = am_n h := by omega
  have f0 : FP (am_n h) (am_n h) h (am_a h 9 4 (am_df 9)) := FP.al FP.rf
  have x1 : TB (am_a h 9 4 (am_df 9)) a v bs := x.fp f0 na na nv nv
  have s1 : am_t (am_a h 9 4 (am_df 9)) (am_n h) = 9 := by rw [am_t_a, if_pos rfl]
  have n1 : am_n (am_a h 9 4 (am_df 9)) = am_n h + 1 := am_n_a
  refine v133 ⟨⟨hf, by decide, by decide⟩, ⟨nn, by decide, by decide⟩, v127 ⟨⟨nn, by decide, by decide⟩, v128 ⟨nn, x1.t, v137 ⟨x1.t, okx ?_⟩⟩⟩⟩
  rw [x1.v0]
  generalize am_a h 9 4 (am_df 9) = g at f0 x1 s1 n1 ⊢
  refine ⟨x1.nv, x1.t, v132 ⟨x1.t, d141 x1 (okx (okx ⟨x1.t, d140 x1 (okx ⟨fun z => absurd z (by decide), fun _ => ⟨⟨s1, rfl⟩, ⟨by decide, by decide⟩, ?_⟩⟩)⟩))⟩⟩
  have nw : am_n (am_w g (am_n h) 1 0) = am_n h + 1 := by rw [am_n_w]; exact n1
  have fw : FP (am_n h) (am_n h) h (am_w g (am_n h) 1 0) := f0.w
  refine d148 (v := v) x1.vt (by omega) ⟨by omega, x1.l1⟩ x1.l2 (hf1 _ nw) (by omega) (fun h2 e1 e2 e3 f2 e4 e5 => okx ⟨?_, okx (okx (okx ?_))⟩)
  · have := (f2.2.2.2.1 (am_n h) (by omega)).1
    rw [this]
    exact s1
  rw [nw] at e1 e2 e3 e5 ⊢
  have f3 : FP (am_n h) (am_n h) h h2 := by
    obtain ⟨y1, y2, y3, y4, y5⟩ := f2
    obtain ⟨z1, z2, z3, z4, z5⟩ := fw
    refine ⟨by omega, y2.trans z2, fun j => (y3 j).trans (z3 j), fun b hb => ?_, fun b hb m1 m2 i => ?_⟩
    · obtain ⟨p1, p2⟩ := z4 b hb
      obtain ⟨p3, p4⟩ := y4 b (by omega)
      exact ⟨p3.trans p1, p4.trans p2⟩
    · by_cases hbv : b = v
      · subst hbv
        exact (e4 i).trans (z5 b hb m1 m2 i)
      · exact (y5 b (by omega) hbv hbv i).trans (z5 b hb m1 m2 i)
  have s2 : am_t h2 (am_n h) = 9 := by
    have := (f2.2.2.2.1 (am_n h) (by omega)).1
    rw [this]
    exact s1
  have m1 : am_m h2 (am_n h) 1 = 0 := by
    rw [f2.2.2.2.2 (am_n h) (by omega) (fun z => nv z.symm) (fun z => nv z.symm), am_m_w, if_pos ⟨rfl, rfl⟩]
  refine k _ ⟨Or.inl s2, ?_, ?_, Or.inl e1, e2, ?_, ?_, nn, fun i hi => ?_⟩ (x.fp f3.w na na nv nv) f3.w s2 ?_
  · rw [am_m_w, if_pos ⟨rfl, rfl⟩]
  · rw [am_m_w, if_neg (fun z => by omega)]; exact m1
  · rw [am_n_w]; omega
  · rw [am_n_w]; omega
  · rw [am_m_w, if_neg (fun z => by omega), e3 _ (by omega) (by omega)]
    have := x1.b i hi
    rw [am_m_w, if_neg (fun z => by omega)]
    exact this
  · rw [am_n_w]; omega
theorem i2c_id : ∀ b : Nat, b < 128 → am_i2c (am_and (b : Int) 255) = (b : Int) := by decide +kernel
theorem d0 {d : Nat} {s w i : Int} {bs : List Int} {h : AH} {K : AK} (x : TS h s w bs) (h0 : 0 ≤ i) (h1 : i < (bs.length : Int)) (hb : 0 ≤ bs.getD i.toNat 0 ∧ bs.getD i.toNat 0 < 128) (k : K 0 (bs.getD i.toNat 0) h) : am_call (d + 3) 0 [(2, s), (0, i)] h K := by
  refine u0 ⟨x.t, d5 x (okx ⟨fun z => absurd z (by decide), fun _ => ⟨x.t, ?_⟩⟩)⟩
  rw [x.v0]
  have hm : am_m h w i = bs.getD i.toNat 0 := by
    have := x.b i.toNat (by omega)
    rw [show (i.toNat : Int) = i by omega] at this
    exact this
  have e : am_i2c (am_and (am_m h w i) 255) = bs.getD i.toNat 0 := by
    rw [hm]
    have := i2c_id (bs.getD i.toNat 0).toNat (by omega)
    rw [show ((bs.getD i.toNat 0).toNat : Int) = bs.getD i.toNat 0 by omega] at this
    exact this
  refine u8 ⟨by have := x.wt; omega, ?_⟩
  rw [x.l]
  refine c1 h0 h1 (okx ⟨⟨x.wt, h0, by rw [x.l]; exact h1⟩, ?_⟩)
  rw [e]
  exact ⟨⟨by omega, by omega⟩, okx ⟨⟨by omega, by omega⟩, k⟩⟩
