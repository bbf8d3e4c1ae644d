/-! ===== the class's checker: its methods ===== -/
theorem am_w_sw {h : AH} {a i v b j w : Int} (hn : a ≠ b) : am_w (am_w h a i v) b j w = am_w (am_w h b j w) a i v := by
  have e : (fun c k => if c = b ∧ k = j then w else if c = a ∧ k = i then v else h.2.2.1 c k) = (fun c k => if c = a ∧ k = i then v else if c = b ∧ k = j then w else h.2.2.1 c k) := by
    funext c k
    by_cases y : c = a ∧ k = i
    · rw [if_pos y, if_neg (fun z => hn (y.1.symm.trans z.1)), if_pos y]
    · rw [if_neg y, if_neg y]
  exact congrArg (fun g => (h.1, h.2.1, g, h.2.2.2)) e
theorem bit0n : ∀ n : Nat, n < 12 → am_and (am_shr 0 (n : Int)) 1 = 0 := by decide
theorem bit0 (v : Int) (h0 : 0 ≤ v) (h1 : v < 12) : am_and (am_shr 0 v) 1 = 0 := by
  have := bit0n v.toNat (by omega)
  rw [show ((v.toNat : Nat) : Int) = v by omega] at this
  exact this
theorem lc_lt {a b : Int} : am_lcmp a b < 0 ↔ a < b := by
  unfold am_lcmp
  split
  · omega
  · split <;> omega
theorem lc_gt {a b : Int} : 0 < am_lcmp a b ↔ b < a := by
  unfold am_lcmp
  split
  · omega
  · split <;> omega
theorem c26 {d : Nat} {h : AH} {r v : Int} {L : List Int} {K : AK} (tr : am_t h r = 22) (lr : (L.length : Int) ≤ am_l h r) (hl : L.length ≤ 400) (x : RW (fun i => am_m h r i) 0 L) (k : K 0 (fiv v L 0) h) : am_call d 26 [(2, r), (0, (L.length : Int)), (1, v)] h K := by
  have H : ∀ (M L2 : List Int), L = L2 ++ M → fiv v M (L2.length : Int) = fiv v L 0 → WP d 26 (3, [(2, r), (0, (L.length : Int)), (1, v), (8, 0), (0, (L2.length : Int))], [], h, 0, 0) K := by
    intro M
    induction M with
    | nil =>
      intro L2 e ef
      rw [List.append_nil] at e
      refine v26_3 ⟨fun z => absurd z (by rw [e]; omega), fun _ => ?_⟩
      rw [← ef] at k
      exact k
    | cons m M ih =>
      intro L2 e ef
      have len : L.length = L2.length + (M.length + 1) := by
        rw [e, List.length_append]
        rfl
      have em : am_m h r (L2.length : Int) = m := by
        rw [e, RW.app] at x
        have := x.2.1
        rw [show (0 : Int) + (L2.length : Int) = (L2.length : Int) by omega] at this
        exact this
      have ef' : (if m = v then (L2.length : Int) else fiv v M ((L2.length : Int) + 1)) = fiv v L 0 := ef
      refine v26_3 ⟨fun _ => ⟨by rw [tr]; decide, fun _ => ⟨⟨tr, by omega, by omega⟩, ?_⟩, fun z => absurd (show (L2.length : Int) < am_l h r by omega) z⟩, fun z => absurd (show (L2.length : Int) < (L.length : Int) by omega) z⟩
      rw [em]
      refine ⟨fun z => ?_, fun z => ?_⟩
      · rw [if_pos (lcmp0.1 z)] at ef'
        rw [← ef'] at k
        exact k
      · rw [if_neg (fun y => z (lcmp0.2 y))] at ef'
        rw [w32_nat (by omega)]
        have := ih (L2 ++ [m]) (by rw [e, List.append_assoc]; rfl) (by rw [List.length_append]; exact ef')
        rw [List.length_append] at this
        exact this
  exact v26 (H L [] rfl rfl)
theorem c20 {h : AH} {r v : Int} {L : List Int} {K : AK} {D : Nat} (hD : 1 ≤ D) (tr : am_t h r = 22) (lr : (L.length : Int) ≤ am_l h r) (hl : L.length ≤ 400) (x : RW (fun i => am_m h r i) 0 L) (k : K 0 (if fiv v L 0 = -1 then (if (L.length : Int) < am_l h r then 0 else 4) else 2) h) : am_call D 20 [(2, r), (0, (L.length : Int)), (1, v)] h K := by
  obtain ⟨d, rfl⟩ : ∃ d, D = d + 1 := ⟨D - 1, by omega⟩
  refine v20 (c26 tr lr hl x (okx ⟨fun z => ⟨by rw [tr]; decide, fun y => ?_, fun y => ?_⟩, fun z => ?_⟩))
  · rw [if_pos z, if_pos y] at k
    exact k
  · rw [if_pos z, if_neg y] at k
    exact k
  · rw [if_neg z] at k
    exact k
section
variable {d D : Nat} {h0 h : AH} {dq : Int} {ro va kd : Nat → Int} {E j : Nat} {f : TT} {K : AK}
theorem map_vv {as : Int} {L : List Nat} (h : as ≠ 4) : L.map (vv h0 va as) = L.map va := List.map_congr_left (fun k _ => by
  unfold vv
  rw [if_neg h])
/-- the names of wards, projects, voters -/
theorem CK.nm (x : CK h0 dq ro va E h j f) {as b : Int} (hb : NB dq as b) (ha : as ≠ 4) : RW (fun i => am_m h b i) 0 ((nl ro as j).map va) := by
  have := x.nb as b hb
  rw [map_vv ha] at this
  exact this
theorem nm_len {as : Int} : ((nl ro as j).map va).length = cn ro as j := by rw [List.length_map, nl_len]
/-- looking a name up -/
theorem CK.find (x : CK h0 dq ro va E h j f) {as b : Int} (hb : NB dq as b) (ha : as ≠ 4) (tb : am_t h b = 22) (lb : (cn ro as j : Int) ≤ am_l h b) (hj : cn ro as j ≤ 400) (k : K 0 (tol ro va as j) h) : am_call d 26 [(2, b), (0, (cn ro as j : Int)), (1, va j)] h K := by
  have e := nm_len (ro := ro) (va := va) (as := as) (j := j)
  have c := c26 (d := d) (v := va j) (K := K) tb (by rw [e]; exact lb) (by rw [e]; exact hj) (x.nm hb ha) k
  rw [e] at c
  exact c
theorem CK.isnew (x : CK h0 dq ro va E h j f) {as b : Int} (hb : NB dq as b) (ha : as ≠ 4) (hD : 1 ≤ D) (tb : am_t h b = 22) (lb : (cn ro as j : Int) ≤ am_l h b) (hj : cn ro as j ≤ 400) (k : K 0 (if tol ro va as j = -1 then (if (cn ro as j : Int) < am_l h b then 0 else 4) else 2) h) : am_call D 20 [(2, b), (0, (cn ro as j : Int)), (1, va j)] h K := by
  have e := nm_len (ro := ro) (va := va) (as := as) (j := j)
  have c := c20 (v := va j) (K := K) hD tb (by rw [e]; exact lb) (by rw [e]; exact hj) (x.nm hb ha) (by rw [e]; exact k)
  rw [e] at c
  exact c
theorem c24 {r i lo hi : Int} (x : CK h0 dq ro va E h j f) (po : am_m h 30 0 = (j : Int)) (hj : j < E) (vr : 0 ≤ va j ∧ va j ≤ 999999) (tr : am_t h r = 20) (hi2 : 0 ≤ i ∧ i < am_l h r) (k5 : ¬ (lo ≤ va j ∧ va j ≤ hi) → K 0 5 h) (k0 : lo ≤ va j ∧ va j ≤ hi → K 0 0 (am_w h r i (va j))) : am_call d 24 [(2, 30), (2, r), (0, i), (0, lo), (0, hi)] h K := by
  have E4 := x.g.E4
  refine v24 ?_
  rw [x.f1, x.g1, po, x.vj hj, x.t24, x.l24, tr, w32_id (x := va j) (by omega) (by omega)]
  refine ⟨x.t, x.t22, x.t, ⟨rfl, by omega, by omega⟩, fun z => k5 (fun y => by have := lc_lt.1 z; omega), fun z => ⟨fun z2 => k5 (fun y => by have := lc_gt.1 z2; omega), fun z2 => ⟨fun y => absurd y (by omega), fun _ => ⟨by decide, fun _ => ⟨⟨rfl, hi2.1, hi2.2⟩, k0 ⟨?_, ?_⟩⟩, fun y => absurd hi2.2 y⟩⟩⟩⟩
  · by_cases y : lo ≤ va j
    · exact y
    · exact absurd (lc_lt.2 (show va j < lo by omega)) z
  · by_cases y : va j ≤ hi
    · exact y
    · exact absurd (lc_gt.2 (show hi < va j by omega)) z2
theorem c25 {r i v : Int} (tr : am_t h r = 20) (hi2 : 0 ≤ i ∧ i < am_l h r) (k3 : v = -1 → K 0 3 h) (k0 : v ≠ -1 → K 0 0 (am_w h r i v)) : am_call d 25 [(2, r), (0, i), (0, v)] h K := by
  refine v25 ?_
  rw [tr]
  exact ⟨k3, fun z => ⟨fun y => absurd y (by omega), fun _ => ⟨by decide, fun _ => ⟨⟨rfl, hi2.1, hi2.2⟩, k0 z⟩, fun y => absurd hi2.2 y⟩⟩⟩
/-- what a step asks of the continuation -/
def KC (h0 : AH) (dq : Int) (ro va : Nat → Int) (E j : Nat) (f : TT) (K : AK) : Prop := ((stp ro va f j).1 = 0 → ∀ h2, CK h0 dq ro va E h2 (j + 1) (stp ro va f j).2 → am_m h2 30 0 = (j : Int) → K 0 0 h2) ∧ ((stp ro va f j).1 ≠ 0 → ∀ h2, FK h0 h2 dq → am_m h2 30 0 = (j : Int) → K 0 (stp ro va f j).1 h2)
theorem KC.bad {c : Int} (k : KC h0 dq ro va E j f K) (e : stp ro va f j = (c, f)) (hc : c ≠ 0) {h2 : AH} (fk : FK h0 h2 dq) (po : am_m h2 30 0 = (j : Int)) : K 0 c h2 := by
  have k2 := k.2
  rw [e] at k2
  exact k2 hc h2 fk po
theorem KC.good {f2 : TT} (k : KC h0 dq ro va E j f K) (e : stp ro va f j = (0, f2)) {h2 : AH} (x : CK h0 dq ro va E h2 (j + 1) f2) (po : am_m h2 30 0 = (j : Int)) : K 0 0 h2 := by
  have k2 := k.1
  rw [e] at k2
  exact k2 rfl h2 x po
theorem c17 (hD : 2 ≤ D) (x : CK h0 dq ro va E h j f) (fi : FI ro va f j) (po : am_m h 30 0 = (j : Int)) (z : am_m h 34 (j : Int) = 0) (er : ro j = 1) (k : KC h0 dq ro va E j f K) : am_call D 17 [(2, 30), (2, dq), (1, va j)] h K := by
  obtain ⟨d, rfl⟩ : ∃ d, D = d + 1 := ⟨D - 1, by omega⟩
  have hq := x.g.qd
  have c1 := fi.c1
  have cs : am_m h dq 0 = (cn ro 1 j : Int) := x.cs 1 0 (Or.inl ⟨rfl, rfl⟩)
  have hb : NB dq 1 31 := Or.inl ⟨rfl, rfl⟩
  refine v17 ⟨x.t, x.p4.1, ?_⟩
  rw [x.f3, cs]
  refine x.isnew hb (by decide) (by omega) x.t31 (by rw [x.l31]; omega) (by omega) ?_
  have es : stp ro va f j = (if tol ro va 1 j = -1 then (if f 0 0 = 4 then (4, f) else (0, su f 0 0 (f 0 0 + 1))) else (2, f)) := by
    unfold stp
    rw [if_pos er]
  rw [x.l31]
  by_cases y : tol ro va 1 j = -1
  · rw [if_pos y] at es ⊢
    by_cases y2 : (cn ro 1 j : Int) < 4
    · rw [if_pos y2]
      rw [if_neg (by omega)] at es
      refine okx ⟨fun _ => ?_, fun w => absurd rfl w⟩
      have e1 : am_m (am_w h 31 (cn ro 1 j : Int) (va j)) dq 0 = (cn ro 1 j : Int) := by
        rw [am_m_w, if_neg (by omega)]
        exact cs
      rw [x.f3, cs, x.t31, x.l31, e1, w32_nat (by omega)]
      refine ⟨x.t, x.p4.1, ⟨rfl, by omega, by omega⟩, x.p4.1, x.p4.1, k.good es (x.cnt (k := 0) (Or.inl ⟨rfl, rfl⟩) hb (by decide) z (fi.mz j (Nat.le_refl _)) er (fun w => absurd w (by decide))) ?_⟩
      rw [am_m_w, if_neg (by omega), am_m_w, if_neg (by omega)]
      exact po
    · rw [if_neg y2]
      rw [if_pos (by omega)] at es
      exact okx ⟨fun w => absurd w (by decide), fun _ => k.bad es (by decide) x.fk po⟩
  · rw [if_neg y] at es ⊢
    exact okx ⟨fun w => absurd w (by decide), fun _ => k.bad es (by decide) x.fk po⟩
theorem c18 (hD : 2 ≤ D) (x : CK h0 dq ro va E h j f) (fi : FI ro va f j) (po : am_m h 30 0 = (j : Int)) (z : am_m h 34 (j : Int) = 0) (er : ro j = 2) (k : KC h0 dq ro va E j f K) : am_call D 18 [(2, 30), (2, dq), (1, va j)] h K := by
  obtain ⟨d, rfl⟩ : ∃ d, D = d + 1 := ⟨D - 1, by omega⟩
  have hq := x.g.qd
  have c2 := fi.c2
  have cs : am_m h dq 1 = (cn ro 2 j : Int) := x.cs 2 1 (Or.inr (Or.inl ⟨rfl, rfl⟩))
  have hb : NB dq 2 32 := Or.inr (Or.inl ⟨rfl, rfl⟩)
  obtain ⟨p0, p1, p2, p3, p4, p5, p6, p7⟩ := x.p4
  refine v18 ⟨x.t, p0, ?_⟩
  rw [x.f4, cs]
  refine x.isnew hb (by decide) (by omega) x.t32 (by rw [x.l32]; omega) (by omega) ?_
  have es : stp ro va f j = (if tol ro va 2 j = -1 then (if f 1 0 = 12 then (4, f) else (0, su f 1 0 (f 1 0 + 1))) else (2, f)) := by
    unfold stp
    rw [if_neg (by omega), if_pos er]
  rw [x.l32]
  by_cases y : tol ro va 2 j = -1
  · rw [if_pos y] at es ⊢
    by_cases y2 : (cn ro 2 j : Int) < 12
    · rw [if_pos y2]
      rw [if_neg (by omega)] at es
      refine okx ⟨fun _ => ?_, fun w => absurd rfl w⟩
      have e1 : ∀ i, am_m (am_w h 32 (cn ro 2 j : Int) (va j)) dq i = am_m h dq i := fun i => by rw [am_m_w, if_neg (by omega)]
      have e2 : am_m (am_w (am_w h 32 (cn ro 2 j : Int) (va j)) (dq + 5) (cn ro 2 j : Int) 0) dq 1 = (cn ro 2 j : Int) := by
        rw [am_m_w, if_neg (by omega), e1]
        exact cs
      have q5 : am_t (am_w h 32 (cn ro 2 j : Int) (va j)) (dq + 5) = 20 := p5.2.1
      have q6 : am_l (am_w h 32 (cn ro 2 j : Int) (va j)) (dq + 5) = 12 := p5.2.2
      rw [x.f4, cs, x.t32, x.l32, e1, e1, p5.1, cs, q5, q6, e2, w32_nat (by omega)]
      have x2 : CK h0 dq ro va E (am_w h (dq + 5) (cn ro 2 j : Int) 0) j f := by
        have e : ∀ b i, b ≠ dq + 5 → am_m (am_w h (dq + 5) (cn ro 2 j : Int) 0) b i = am_m h b i := fun b i z => by rw [am_m_w, if_neg (fun y => z y.1)]
        exact ⟨x.g, x.fk.w hq (by omega), fun as c hc => (e _ _ (by omega)).trans (x.cs as c hc), (e _ _ (by omega)).trans x.bg, fun as b hb => RW.cg (fun i _ _ => e _ _ (by unfold NB at hb; omega)) (x.nb as b hb), fun as off b hr i hi => (e _ _ (by unfold RD at hr; omega)).trans (x.rd as off b hr i hi), fun p hp => by rw [am_m_w, if_neg (by omega)]; exact x.fn p hp, fun k hk => (e _ _ (by omega)).trans (x.mn k hk)⟩
      have z2 : am_m (am_w h (dq + 5) (cn ro 2 j : Int) 0) 34 (j : Int) = 0 := by
        rw [am_m_w, if_neg (by omega)]
        exact z
      have nf : am_m (am_w h (dq + 5) (cn ro 2 j : Int) 0) (dq + 5) (cn ro 2 j : Int) = 0 := by rw [am_m_w, if_pos ⟨rfl, rfl⟩]
      have sw : am_w (am_w (am_w h 32 (cn ro 2 j : Int) (va j)) (dq + 5) (cn ro 2 j : Int) 0) dq 1 ((cn ro 2 j + 1 : Nat) : Int) = am_w (am_w (am_w h (dq + 5) (cn ro 2 j : Int) 0) 32 (cn ro 2 j : Int) (vv h0 va 2 j)) dq 1 ((cn ro 2 j + 1 : Nat) : Int) := congrArg (fun g => am_w g dq 1 ((cn ro 2 j + 1 : Nat) : Int)) (am_w_sw (h := h) (a := 32) (b := dq + 5) (by omega))
      rw [sw]
      refine ⟨x.t, p0, ⟨rfl, by omega, by omega⟩, p0, p0, ⟨rfl, by omega, by omega⟩, p0, p0, k.good es (x2.cnt (k := 1) (Or.inr (Or.inl ⟨rfl, rfl⟩)) hb (by decide) z2 (fi.mz j (Nat.le_refl _)) er (fun _ => ?_)) ?_⟩
      · rw [nf]
        refine ⟨by decide, fun v v0 v1 => ?_⟩
        rw [fi.zz v (cn ro 2 j : Int) v0 (by omega) v1 y2 (Or.inr (by omega))]
        exact bit0 v v0 v1
      · rw [am_m_w, if_neg (by omega), am_m_w, if_neg (by omega), am_m_w, if_neg (by omega)]
        exact po
    · rw [if_neg y2]
      rw [if_pos (by omega)] at es
      exact okx ⟨fun w => absurd w (by decide), fun _ => k.bad es (by decide) x.fk po⟩
  · rw [if_neg y] at es ⊢
    exact okx ⟨fun w => absurd w (by decide), fun _ => k.bad es (by decide) x.fk po⟩
theorem c19 (hD : 2 ≤ D) (x : CK h0 dq ro va E h j f) (fi : FI ro va f j) (po : am_m h 30 0 = (j : Int)) (z : am_m h 34 (j : Int) = 0) (er : ro j = 3) (k : KC h0 dq ro va E j f K) : am_call D 19 [(2, 30), (2, dq), (1, va j)] h K := by
  obtain ⟨d, rfl⟩ : ∃ d, D = d + 1 := ⟨D - 1, by omega⟩
  have hq := x.g.qd
  have c3 := fi.c3
  have cs : am_m h dq 2 = (cn ro 3 j : Int) := x.cs 3 2 (Or.inr (Or.inr (Or.inl ⟨rfl, rfl⟩)))
  have hb : NB dq 3 33 := Or.inr (Or.inr (Or.inl ⟨rfl, rfl⟩))
  refine v19 ⟨x.t, x.p4.1, ?_⟩
  rw [x.f5, cs]
  refine x.isnew hb (by decide) (by omega) x.t33 (by rw [x.l33]; omega) (by omega) ?_
  have es : stp ro va f j = (if tol ro va 3 j = -1 then (if f 2 0 = 12 then (4, f) else (0, su f 2 0 (f 2 0 + 1))) else (2, f)) := by
    unfold stp
    rw [if_neg (by omega), if_neg (by omega), if_pos er]
  rw [x.l33]
  by_cases y : tol ro va 3 j = -1
  · rw [if_pos y] at es ⊢
    by_cases y2 : (cn ro 3 j : Int) < 12
    · rw [if_pos y2]
      rw [if_neg (by omega)] at es
      refine okx ⟨fun _ => ?_, fun w => absurd rfl w⟩
      have e1 : am_m (am_w h 33 (cn ro 3 j : Int) (va j)) dq 2 = (cn ro 3 j : Int) := by
        rw [am_m_w, if_neg (by omega)]
        exact cs
      rw [x.f5, cs, x.t33, x.l33, e1, w32_nat (by omega)]
      refine ⟨x.t, x.p4.1, ⟨rfl, by omega, by omega⟩, x.p4.1, x.p4.1, k.good es (x.cnt (k := 2) (Or.inr (Or.inr (Or.inl ⟨rfl, rfl⟩))) hb (by decide) z (fi.mz j (Nat.le_refl _)) er (fun w => absurd w (by decide))) ?_⟩
      rw [am_m_w, if_neg (by omega), am_m_w, if_neg (by omega)]
      exact po
    · rw [if_neg y2]
      rw [if_pos (by omega)] at es
      exact okx ⟨fun w => absurd w (by decide), fun _ => k.bad es (by decide) x.fk po⟩
  · rw [if_neg y] at es ⊢
    exact okx ⟨fun w => absurd w (by decide), fun _ => k.bad es (by decide) x.fk po⟩
theorem c21 (x : CK h0 dq ro va E h j f) (fi : FI ro va f j) (po : am_m h 30 0 = (j : Int)) (hj : j < E) (z : am_m h 34 (j : Int) = 0) (er : ro j = 4) (k : KC h0 dq ro va E j f K) : am_call d 21 [(2, 30), (2, dq)] h K := by
  have hq := x.g.qd
  have E4 := x.g.E4
  have c4 := fi.c4
  have cs : am_m h dq 3 = (cn ro 4 j : Int) := x.cs 4 3 (Or.inr (Or.inr (Or.inr ⟨rfl, rfl⟩)))
  have hb : NB dq 4 (dq + 7) := Or.inr (Or.inr (Or.inr ⟨rfl, rfl⟩))
  obtain ⟨p0, p1, p2, p3, p4, p5, p6, p7⟩ := x.p4
  have es : stp ro va f j = (if f 3 0 = 12 then (4, f) else (0, su f 3 0 (f 3 0 + 1))) := by
    unfold stp
    rw [if_neg (by omega), if_neg (by omega), if_neg (by omega), if_pos er]
  refine v21 ?_
  have e1 : ∀ v, am_m (am_w h (dq + 7) (cn ro 4 j : Int) v) dq 3 = (cn ro 4 j : Int) := fun v => by
    rw [am_m_w, if_neg (by omega)]
    exact cs
  simp only [am_t_w, x.t, p0, cs, x.f2, x.t27, x.ge, x.t29, x.l29, po, p7.1, p7.2.1, p7.2.2, e1, true_and]
  refine ⟨fun y => ⟨⟨by omega, by omega⟩, ⟨by omega, by omega⟩, ?_⟩, fun y => ?_⟩
  · rw [if_neg (by omega)] at es
    rw [w32_nat (by omega)]
    have ev : am_m h 29 (j : Int) = vv h0 va 4 j := x.e29
    rw [ev]
    refine k.good es (x.cnt (k := 3) (Or.inr (Or.inr (Or.inr ⟨rfl, rfl⟩))) hb (by decide) z (fi.mz j (Nat.le_refl _)) er (fun w => absurd w (by decide))) ?_
    rw [am_m_w, if_neg (by omega), am_m_w, if_neg (by omega)]
    exact po
  · rw [if_pos (by omega)] at es
    exact k.bad es (by decide) x.fk po
end
