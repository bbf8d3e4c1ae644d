/-! THE CLAIM OUT OF ONE WALK OF THE LAW'S BODY. Your part is whole_start (and what it stands on); all else here is the same for every law, but numbers. -/
def R_law : String := "BudgetJuryLaw"
def lw_P (b : Addr) (xs : List Int32) (args : Array Value) (s : State) : Prop := args = #[.ref b] ∧ s.IntsAt b xs ∧ xs.length ≤ 260 ∧ (Jvm.Cond.and given_1 narrow_1).before args s = true
/-- what a walk over the start with the record d0 says of its end, said of the start itself -/
theorem lw_closed {s t : State} {o : Outcome} {d0 : Drawn} {L : List Loc} {k n : Nat} (hd0 : s.drawn.sameBut d0 lw_cs) (hv : ∃ v, o = .returned v) (hW : (s.setDrawn d0).WarmedH t.vm) (hs : (s.setDrawn d0).sameButNew ({ t with vm := s.vm } : State) L k n) : State.butDraws s t lw_cs (fun t1 => Framed s o t1 L k n) := by
  have h2 : t.drawn = d0 := congrArg State.drawn hs.1
  refine ⟨⟨hv, hW, State.sameButNew.setDrawn hs s.drawn⟩, ?_, by decide⟩
  rw [h2]
  exact hd0
def lw_Q (_ : Array Value) (s : State) (o : Outcome) (t : State) : Prop := o = .returned (some (.int 1)) ∧ State.butDraws s t lw_cs (fun t1 => Framed s o t1 [] 600086 7301442)
def lw_Z (below : List Frame) (a : Array Value) (s : State) : State → Prop := fun t => ∃ o, t.status = .running ∧ Ended t below o ∧ lw_Q a s o t
/-- the law's own end, with 1 on the stack, nothing written that was there before, its room as the claim has it; d0: the record of draws at this point (at the entry s.drawn: begin with 'refine W.base ?_' and 'have hd0 := Drawn.sameBut.refl s.drawn lw_cs') -/
theorem lw_ret {p : Program} {l : Launch} {e : Env} {s : State} {m : MethodId} {below : List Frame} {meth : Method} {c : Code} {b : Nat} {d0 : Drawn} (hd0 : s.drawn.sameBut d0 lw_cs) (hx : p.tables.exec = Jvm.exec) (hb : c.code = code) (hr : meth.sig.returnType = ret) (hlocks : meth.locks = false) {pc : Nat} {H : Heap} {ls : Array Slot} (hdg : decode code pc = .ok (.ireturn, 1)) : W p l e room_1 (s.setDrawn d0) m #[Value.ref b] below meth c H [] 600086 7301442 (lw_Z below #[Value.ref b] s) (F0 m pc ls [.int 1]) := by
  intro T hT X
  obtain ⟨fs, hret, hrun, hended, hW, hframe⟩ := X.leave (v := some (.int 1)) (hlocks := hlocks) (fun h => by rw [hr] at h; cases h)
  have hmeth' : T.vm.method? m = some meth := X.method'
  refine ⟨T.setFrames fs, ?_, .returned (some (.int 1)), hrun, hended, rfl, lw_closed hd0 ⟨_, rfl⟩ hW hframe⟩
  jvm_step X.here [X.here.top, hx, hb, hdg, hmeth', hr, ret, narrow_b1]
  (try refine ⟨rfl, ?_⟩); (try refine ⟨rfl, ?_⟩)
  first | (intro acts; rw [hret _ acts rfl rfl rfl]) | rw [hret _ _ rfl rfl rfl]
  exact Steps.refl _
/-- what holds at the law's entry: the machine, the code, the tables' words (any of lw_tbl by 'hts w (by decide +kernel)'), the script of L ints xs at the cell b, what the Statement gives of the start (any of its parts by flat_of_before) -/
def lw_At (p : Program) (s : State) (m : MethodId) (meth : Method) (c : Code) (b L : Nat) (xs : Nat → Int32) : Prop :=
  p.tables.exec = Jvm.exec ∧ c.code = code ∧ meth.sig.returnType = ret ∧ c.maxLocals = 38 ∧ s.vm.findClass R_law = some m.cls ∧ (∀ w ∈ lw_tbl, w.before #[Value.ref b] s = true) ∧ va_X b L xs s s.heap ∧ b < s.heap.size ∧ meth.locks = false ∧ (Jvm.Cond.and given_1 narrow_1).before #[Value.ref b] s = true ∧ c.exceptionTable.toList = []

/-- the heap of the abstract machine as the law begins: the constant texts and their bytes -/
def am_h0 (L : Nat) (xs : Nat → Int32) : AH := (fun a => if a ≤ -300000000 ∧ -300000076 < a then (if (-a) % 2 = 0 then (if -300000072 < a then 18 else 0) else 26) else 0, fun a => am_cn ((-a - 300000000) / 2).toNat, fun a i => if (-a) % 2 = 0 then (if i = 0 then a - 1 else 0) else am_kc ((-a - 300000000) / 2).toNat i, -100000000, (L : Int), fun j => (xs j.toNat).toInt)
def am_K0 : AK := fun x v _ => x = 0 ∧ v = 1
theorem am_tag0 {L : Nat} {xs : Nat → Int32} {a : Int} (h : am_t (am_h0 L xs) a ≠ 0) : ∃ j : Nat, (j < 36 ∧ a = -(300000000 + 2 * (j : Int)) ∧ am_t (am_h0 L xs) a = 18) ∨ (j < 38 ∧ a = -(300000000 + 2 * (j : Int) + 1) ∧ am_t (am_h0 L xs) a = 26) := by
  have e : am_t (am_h0 L xs) a = if a ≤ -300000000 ∧ -300000076 < a then (if (-a) % 2 = 0 then (if -300000072 < a then 18 else 0) else 26) else 0 := rfl
  rw [e] at h ⊢
  by_cases h1 : a ≤ -300000000 ∧ -300000076 < a
  · rw [if_pos h1] at h ⊢
    refine ⟨((-a - 300000000) / 2).toNat, ?_⟩
    by_cases h2 : (-a) % 2 = 0
    · rw [if_pos h2] at h ⊢
      by_cases h3 : -300000072 < a
      · rw [if_pos h3]
        exact Or.inl ⟨by omega, by omega, rfl⟩
      · rw [if_neg h3] at h
        exact absurd rfl h
    · rw [if_neg h2]
      exact Or.inr ⟨by omega, by omega, rfl⟩
  · rw [if_neg h1] at h
    exact absurd rfl h
theorem am_c_ek (G : am_En) (j : Nat) : ea G (-(300000000 + 2 * (j : Int))) = ek G j := by
  unfold ea
  rw [if_pos (by omega), if_pos (by omega)]
  exact congrArg _ (by omega)
theorem am_c_ev (G : am_En) (j : Nat) : ea G (-(300000000 + 2 * (j : Int) + 1)) = ev G j := by
  unfold ea
  rw [if_pos (by omega), if_neg (by omega)]
  exact congrArg _ (by omega)
theorem am_start_HM {G : am_En} {L : Nat} {xs : Nat → Int32} {U : State} (g0 : eB G = 0) (g1 : eS G = U.heap.size) (g3 : eL G = L) (g4 : ∀ j, ex G j = xs j) (hWK : am_WK G U U.heap) : am_HM G (am_h0 L xs) U.heap := by
  have n0 : am_n (am_h0 L xs) = -100000000 := rfl
  have kb : ∀ {q : Nat} {c : Cell}, U.heap[q]? = some c → q < eS G := fun h => by rw [g1]; exact (Array.getElem?_eq_some_iff.mp h).1
  have hek : ∀ j : Nat, j < 36 → ek G j < eS G := fun j hj => by
    obtain ⟨⟨c, h1, -⟩, -⟩ := hWK.2.1 j hj
    exact kb h1
  have hev : ∀ j : Nat, j < 38 → ev G j < eS G := fun j hj => by
    by_cases h36 : j < 36
    · obtain ⟨-, -, -, c, h1, -⟩ := hWK.2.1 j h36
      exact kb h1
    · by_cases h37 : j = 36
      · subst h37
        obtain ⟨c, h1, -⟩ := hWK.2.2.1.1.2
        exact kb h1
      · obtain rfl : j = 37 := by omega
        obtain ⟨c, h1, -⟩ := hWK.2.2.1.2.1.2
        exact kb h1
  refine ⟨Or.inl ⟨g0, by rw [n0]; decide, by rw [n0, g1]; rfl⟩, ⟨by rw [g3]; rfl, fun j hj => by rw [g4]; rfl⟩, fun a ha => ?_⟩
  obtain ⟨j, ⟨hj, rfl, ht⟩ | ⟨hj, rfl, ht⟩⟩ := am_tag0 ha
  · refine ⟨⟨by omega, Or.inr ⟨by omega, Or.inl ht, by rw [am_c_ek]; exact hek j hj⟩⟩, (am_CO_s ht).mpr ⟨j, hj, rfl, ?_, ?_⟩⟩
    · show (if (-(-(300000000 + 2 * (j : Int)))) % 2 = 0 then (if (0 : Int) = 0 then -(300000000 + 2 * (j : Int)) - 1 else 0) else am_kc _ _) = _
      rw [if_pos (by omega), if_pos rfl]
      omega
    · show (if (-(-(300000000 + 2 * (j : Int)))) % 2 = 0 then (if (1 : Int) = 0 then -(300000000 + 2 * (j : Int)) - 1 else 0) else am_kc _ _) = _
      rw [if_pos (by omega), if_neg (by decide)]
  · have e : ((-(-(300000000 + 2 * (j : Int) + 1)) - 300000000) / 2).toNat = j := by omega
    refine ⟨⟨by omega, Or.inr ⟨by omega, Or.inr ht, by rw [am_c_ev]; exact hev j hj⟩⟩, (am_CO_b ht).mpr ⟨j, hj, rfl, ?_, fun i h0 h1 => ?_⟩⟩
    · show am_cn _ = _
      rw [e]
    · show (if (-(-(300000000 + 2 * (j : Int) + 1))) % 2 = 0 then _ else am_kc _ i) = _
      rw [if_neg (by omega), e]
/-! the second phase: what is made from here on is counted anew, from 0 -/
def am_rG (G : am_En) (k : Nat) : am_En := ((k, G.1.2), G.2)
def am_rb (keep : Int → Bool) (h : AH) : AH := (fun a => match keep a with
  | true => h.1 a
  | false => 0, h.2.1, h.2.2.1, 0, h.2.2.2.2)
/-- what is kept points at nothing that is counted anew -/
def am_neg (h : AH) (a : Int) : Prop := (∀ k : Nat, (am_ft (am_t h a)).getD k 0 = 2 → am_m h a (k : Int) < 0) ∧ ((am_t h a = 24 ∨ am_t h a = 25) → ∀ j : Nat, (j : Int) < am_l h a → am_m h a (j : Int) < 0)
theorem am_rG_ea {G : am_En} {k : Nat} {x : Int} (hx : x < 0) : ea (am_rG G k) x = ea G x := by
  show (if x ≤ -300000000 then (if (-x - 300000000) % 2 = 0 then ek G ((-x - 300000000).toNat / 2) else ev G ((-x - 300000000).toNat / 2)) else if 0 ≤ x ∧ k ≠ 0 then k + x.toNat else eS G + (x + 100000000).toNat) = _
  unfold ea
  by_cases h1 : x ≤ -300000000
  · rw [if_pos h1, if_pos h1]
  · rw [if_neg h1, if_neg h1, if_neg (by omega), if_neg (by omega)]
theorem am_rG_RV {G : am_En} {k : Nat} {v : AV} {V : Value} (hv : v.1 = 2 → v.2 < 0) (h : am_RV G v V) : am_RV (am_rG G k) v V := by
  obtain ⟨t, x⟩ := v
  by_cases h2 : t = 2
  · subst h2
    rcases h with h | ⟨h1, h⟩
    · exact Or.inl h
    · exact Or.inr ⟨h1, by rw [h, am_rG_ea (hv rfl)]⟩
  · unfold am_RV at h ⊢
    dsimp only at h ⊢
    split at h
    all_goals first | exact h | exact absurd rfl h2 | (split <;> first | exact h | omega)
theorem am_rG_CQ {G : am_En} {k : Nat} {cA : ClassId} {h h1 : AH} {a : Int} {H : Heap} (ha : a < 0) (w : am_CQ G cA h a H) (hl : am_l h1 a = am_l h a) (hm : ∀ j, am_m h1 a j = am_m h a j) (hn : ∀ j : Nat, (j : Int) < am_l h a → am_m h a (j : Int) < 0) : am_CQ (am_rG G k) cA h1 a H := by
  obtain ⟨n, f, a1, a2, a3, a4⟩ := w
  exact ⟨n, f, by rw [am_rG_ea ha]; exact a1, hl.trans a2, a3, fun j hj => by rw [hm]; exact am_rG_RV (fun _ => hn j (by omega)) (a4 j hj)⟩
theorem am_rG_CI {G : am_En} {k : Nat} {cA : ClassId} {lo hi : Int} {h h1 : AH} {a : Int} {H : Heap} (ha : a < 0) (w : am_CI G cA lo hi h a H) (hl : am_l h1 a = am_l h a) (hm : ∀ j, am_m h1 a j = am_m h a j) : am_CI (am_rG G k) cA lo hi h1 a H := by
  obtain ⟨n, f, a1, a2, a3, a4⟩ := w
  exact ⟨n, f, by rw [am_rG_ea ha]; exact a1, hl.trans a2, a3, fun j hj => ⟨(hm _).trans (a4 j hj).1, (a4 j hj).2⟩⟩
theorem am_rG_CO {G : am_En} {k : Nat} {h h1 : AH} {a : Int} {H : Heap} (ha : a < 0) (w : am_CO G h a H) (ht : am_t h1 a = am_t h a) (hl : am_l h1 a = am_l h a) (hm : ∀ j, am_m h1 a j = am_m h a j) (hn : am_neg h a) : am_CO (am_rG G k) h1 a H := by
  unfold am_neg at hn
  unfold am_CO at w ⊢
  rw [ht]
  generalize am_t h a = tt at w hn ⊢
  match tt, w, hn with
  | 20, w, _ => exact am_rG_CI ha w hl hm
  | 21, w, _ => exact am_rG_CI ha w hl hm
  | 22, w, _ =>
    obtain ⟨n, f, a1, a2, a3, a4⟩ := w
    exact ⟨n, f, by rw [am_rG_ea ha]; exact a1, hl.trans a2, a3, fun j hj => (hm _).trans (a4 j hj)⟩
  | 23, w, _ => exact am_rG_CI ha w hl hm
  | 24, w, hn => exact am_rG_CQ ha w hl hm (hn.2 (Or.inl rfl))
  | 25, w, hn => exact am_rG_CQ ha w hl hm (hn.2 (Or.inr rfl))
  | 18, w, _ =>
    obtain ⟨j, a1, a2, a3, a4⟩ := w
    exact ⟨j, a1, a2, (hm _).trans a3, (hm _).trans a4⟩
  | 26, w, _ =>
    obtain ⟨j, a1, a2, a3, a4⟩ := w
    exact ⟨j, a1, a2, hl.trans a3, fun i h0 h1 => (hm _).trans (a4 i h0 h1)⟩
  | 0, w, hn =>
    obtain ⟨q, V, a1, a2, a3⟩ := w
    exact ⟨q, V, a1, by rw [am_rG_ea ha]; exact a2, fun k hk => by rw [hm]; exact am_rG_RV (hn.1 k) (a3 k hk)⟩
  | 1, w, hn =>
    obtain ⟨q, V, a1, a2, a3⟩ := w
    exact ⟨q, V, a1, by rw [am_rG_ea ha]; exact a2, fun k hk => by rw [hm]; exact am_rG_RV (hn.1 k) (a3 k hk)⟩
  | 2, w, hn =>
    obtain ⟨q, V, a1, a2, a3⟩ := w
    exact ⟨q, V, a1, by rw [am_rG_ea ha]; exact a2, fun k hk => by rw [hm]; exact am_rG_RV (hn.1 k) (a3 k hk)⟩
  | 3, w, hn =>
    obtain ⟨q, V, a1, a2, a3⟩ := w
    exact ⟨q, V, a1, by rw [am_rG_ea ha]; exact a2, fun k hk => by rw [hm]; exact am_rG_RV (hn.1 k) (a3 k hk)⟩
  | 4, w, hn =>
    obtain ⟨q, V, a1, a2, a3⟩ := w
    exact ⟨q, V, a1, by rw [am_rG_ea ha]; exact a2, fun k hk => by rw [hm]; exact am_rG_RV (hn.1 k) (a3 k hk)⟩
  | 5, w, hn =>
    obtain ⟨q, V, a1, a2, a3⟩ := w
    exact ⟨q, V, a1, by rw [am_rG_ea ha]; exact a2, fun k hk => by rw [hm]; exact am_rG_RV (hn.1 k) (a3 k hk)⟩
  | 6, w, hn =>
    obtain ⟨q, V, a1, a2, a3⟩ := w
    exact ⟨q, V, a1, by rw [am_rG_ea ha]; exact a2, fun k hk => by rw [hm]; exact am_rG_RV (hn.1 k) (a3 k hk)⟩
  | 7, w, hn =>
    obtain ⟨q, V, a1, a2, a3⟩ := w
    exact ⟨q, V, a1, by rw [am_rG_ea ha]; exact a2, fun k hk => by rw [hm]; exact am_rG_RV (hn.1 k) (a3 k hk)⟩
  | 8, w, hn =>
    obtain ⟨q, V, a1, a2, a3⟩ := w
    exact ⟨q, V, a1, by rw [am_rG_ea ha]; exact a2, fun k hk => by rw [hm]; exact am_rG_RV (hn.1 k) (a3 k hk)⟩
  | 9, w, hn =>
    obtain ⟨q, V, a1, a2, a3⟩ := w
    exact ⟨q, V, a1, by rw [am_rG_ea ha]; exact a2, fun k hk => by rw [hm]; exact am_rG_RV (hn.1 k) (a3 k hk)⟩
  | 10, w, hn =>
    obtain ⟨q, V, a1, a2, a3⟩ := w
    exact ⟨q, V, a1, by rw [am_rG_ea ha]; exact a2, fun k hk => by rw [hm]; exact am_rG_RV (hn.1 k) (a3 k hk)⟩
  | 11, w, hn =>
    obtain ⟨q, V, a1, a2, a3⟩ := w
    exact ⟨q, V, a1, by rw [am_rG_ea ha]; exact a2, fun k hk => by rw [hm]; exact am_rG_RV (hn.1 k) (a3 k hk)⟩
  | 12, w, hn =>
    obtain ⟨q, V, a1, a2, a3⟩ := w
    exact ⟨q, V, a1, by rw [am_rG_ea ha]; exact a2, fun k hk => by rw [hm]; exact am_rG_RV (hn.1 k) (a3 k hk)⟩
  | 13, w, hn =>
    obtain ⟨q, V, a1, a2, a3⟩ := w
    exact ⟨q, V, a1, by rw [am_rG_ea ha]; exact a2, fun k hk => by rw [hm]; exact am_rG_RV (hn.1 k) (a3 k hk)⟩
  | 14, w, hn =>
    obtain ⟨q, V, a1, a2, a3⟩ := w
    exact ⟨q, V, a1, by rw [am_rG_ea ha]; exact a2, fun k hk => by rw [hm]; exact am_rG_RV (hn.1 k) (a3 k hk)⟩
  | 15, w, hn =>
    obtain ⟨q, V, a1, a2, a3⟩ := w
    exact ⟨q, V, a1, by rw [am_rG_ea ha]; exact a2, fun k hk => by rw [hm]; exact am_rG_RV (hn.1 k) (a3 k hk)⟩
  | 16, w, hn =>
    obtain ⟨q, V, a1, a2, a3⟩ := w
    exact ⟨q, V, a1, by rw [am_rG_ea ha]; exact a2, fun k hk => by rw [hm]; exact am_rG_RV (hn.1 k) (a3 k hk)⟩
  | 17, w, hn =>
    obtain ⟨q, V, a1, a2, a3⟩ := w
    exact ⟨q, V, a1, by rw [am_rG_ea ha]; exact a2, fun k hk => by rw [hm]; exact am_rG_RV (hn.1 k) (a3 k hk)⟩
  | 19, w, hn =>
    obtain ⟨q, V, a1, a2, a3⟩ := w
    exact ⟨q, V, a1, by rw [am_rG_ea ha]; exact a2, fun k hk => by rw [hm]; exact am_rG_RV (hn.1 k) (a3 k hk)⟩
  | n + 27, w, hn =>
    obtain ⟨q, V, a1, a2, a3⟩ := w
    exact ⟨q, V, a1, by rw [am_rG_ea ha]; exact a2, fun k hk => by rw [hm]; exact am_rG_RV (hn.1 k) (a3 k hk)⟩
theorem am_rb_t {keep : Int → Bool} {h : AH} {a : Int} (ha : am_t (am_rb keep h) a ≠ 0) : keep a = true ∧ am_t h a ≠ 0 ∧ am_t (am_rb keep h) a = am_t h a := by
  have e : am_t (am_rb keep h) a = match keep a with
    | true => am_t h a
    | false => 0 := rfl
  rw [e] at ha ⊢
  cases hk : keep a with
  | true => rw [hk] at ha; exact ⟨rfl, ha, rfl⟩
  | false => rw [hk] at ha; exact absurd rfl ha
theorem am_rb_HM {G : am_En} {h : AH} {H : Heap} {keep : Int → Bool} (g0 : eB G = 0) (gS : eb G < eS G) (hS : eS G ≤ H.size) (hn : am_n h ≤ 0) (hk : ∀ a, keep a = true → am_t h a ≠ 0 → am_neg h a) (hH : am_HM G h H) : am_HM (am_rG G H.size) (am_rb keep h) H := by
  refine ⟨Or.inr ⟨by show H.size ≠ 0; omega, hS, Int.le_refl _, rfl⟩, hH.2.1, fun a ha => ?_⟩
  obtain ⟨k1, k2, k3⟩ := am_rb_t ha
  obtain ⟨⟨b0, b1⟩, b2⟩ := hH.2.2 a k2
  have hneg : a < 0 := by rcases b1 with b1 | b1 <;> omega
  refine ⟨⟨b0, ?_⟩, am_rG_CO hneg b2 k3 rfl (fun _ => rfl) (hk a k1 k2)⟩
  rw [am_rG_ea hneg, k3]
  rcases b1 with ⟨c1, c2, c3, c4, c5, c6⟩ | ⟨c1, c2, c3⟩
  · exact Or.inl ⟨c1, hneg, c3, c4, fun _ _ => c4, c6⟩
  · exact Or.inr ⟨c1, c2, c3⟩
/-- the places from which the second phase begins: what is listed points below 0 -/
def am_ngs (l : List AV) : Prop := ∀ v ∈ l, v.1 = 2 → v.2 < 0
def am_S2 (W : AX) : AX := fun d m c K => am_rtt m = 0 ∧ K = am_K0 ∧ am_n c.2.2.2.1 ≤ 0 ∧ am_ngs c.2.1 ∧ am_ngs c.2.2.1 ∧ ∃ keep : Int → Bool, (∀ a, keep a = true → am_t c.2.2.2.1 a ≠ 0 → am_neg c.2.2.2.1 a) ∧ W d m (c.1, c.2.1, c.2.2.1, am_rb keep c.2.2.2.1, c.2.2.2.2) K
def WPS : AX := fun d m c K => ∀ P, am_Clo P → (∀ d m c K, am_S2 WP d m c K → P d m c K) → P d m c K
theorem WPS_of {d m : Nat} {c : AC} {K : AK} (w : WP d m c K) : WPS d m c K := fun P hP _ => w P hP
theorem WPS_2 {d m : Nat} {c : AC} {K : AK} (w : am_S2 WP d m c K) : WPS d m c K := fun _ _ hS => hS _ _ _ _ w
theorem WPS_mono {d m : Nat} {c : AC} {K K' : AK} (h : am_le K K') (w : WPS d m c K) : WPS d m c K' := fun P hP hS => hP.2 d m c K K' h (w P hP hS)
theorem WPS_step {d m : Nat} {c : AC} {K : AK} (w : am_stp WP (fun c' => WPS d m c' K) d (am_hd m) K (am_shp m c)) : WPS d m c K := by
  intro P hP hS
  refine hP.1 d m c K (am_stp_mono (X := WP) (fun d m c K K' hK z => hP.2 _ _ _ _ _ hK (z P hP)) (fun c z => z P hP hS) (fun _ _ _ z => z) w)
theorem am_get_mem : ∀ {l : List AV} {i : Nat}, am_get l i ∈ l ∨ am_get l i = (9, 0)
  | [], _ => Or.inr rfl
  | a :: _, 0 => Or.inl List.mem_cons_self
  | _ :: r, n + 1 => (am_get_mem (l := r) (i := n)).imp (fun h => List.mem_cons_of_mem _ h) id
theorem am_ngs_get {l : List AV} (h : am_ngs l) (i : Nat) : (am_get l i).1 = 2 → (am_get l i).2 < 0 := by
  rcases am_get_mem (l := l) (i := i) with h1 | h1
  · exact h _ h1
  · rw [h1]
    intro h2
    cases h2
theorem am_rG_RS {G : am_En} {k : Nat} : ∀ {l : List AV} {st : List Value}, am_ngs l → am_RS G l st → am_RS (am_rG G k) l st
  | [], [], _, _ => trivial
  | v :: r, V :: R, hn, h => ⟨am_rG_RV (hn v List.mem_cons_self) h.1, am_rG_RS (fun w hw => hn w (List.mem_cons_of_mem _ hw)) h.2⟩
  | [], _ :: _, _, h => h.elim
  | _ :: _, [], _, h => h.elim
theorem am_rG_RL {G : am_En} {k n : Nat} {ls : List AV} {arr : Array Slot} (hn : am_ngs ls) (h : am_RL G n ls arr) : am_RL (am_rG G k) n ls arr := by
  refine ⟨h.1, h.2.1, h.2.2.1, fun i h1 h2 => ?_⟩
  obtain ⟨V, e1, e2⟩ := h.2.2.2 i h1 h2
  exact ⟨V, e1, am_rG_RV (am_ngs_get hn i) e2⟩
theorem am_rG_WK {G : am_En} {k : Nat} {U : State} {H : Heap} (h : am_WK G U H) : am_WK (am_rG G k) U H := h
/-- the empty heap of the first phase -/
def am_nil (G : am_En) (h : AH) (N : Nat) : AH := (fun _ => 0, fun _ => 0, fun _ _ => 0, (N : Int) - (eS G : Int) - 100000000, h.2.2.2.2)
theorem am_nil_HM {G : am_En} {k : Nat} {h : AH} {H : Heap} (g0 : eB G = 0) (hS : eS G ≤ H.size) (hH : am_HM (am_rG G k) h H) : am_HM G (am_nil G h H.size) H := by
  refine ⟨Or.inl ⟨g0, ?_, ?_⟩, hH.2.1, fun a ha => absurd rfl ha⟩
  · show -100000000 ≤ (H.size : Int) - (eS G : Int) - 100000000
    omega
  · show H.size = eS G + ((H.size : Int) - (eS G : Int) - 100000000 + 100000000).toNat
    omega
theorem am_S2_ok {G : am_En} {l : Launch} (g0 : eB G = 0) {d m : Nat} {c : AC} {K : AK} (w : am_S2 WP d m c K) : am_Sim G l d m c K := by
  obtain ⟨hrt, rfl, hn, hls, hst, keep, hk, hw⟩ := w
  intro p e R s mth args below meth cd Q C htab hend
  intro H locs arr st hH hS hL hSt hc hs0
  have gS : eb G < eS G := C.2.2.2.2.2.1.2.2.2.2.1
  have hSz : eS G ≤ s.heap.size := C.2.2.2.2.2.1.2.2.2.2.2.1
  have hSH : eS G ≤ H.size := Nat.le_trans hSz hS.1
  refine am_sim (G := am_rG G H.size) hw p e R s mth args below meth cd Q C htab ⟨?_, ?_⟩ H locs arr st (am_rb_HM g0 gS hSH hn hk hH) hS (am_rG_RL hls hL) (am_rG_RS hst hSt) hc hs0
  · intro H2 locs2 arr2 st2 h2 r pc c2 s2 hK hr hH2 hS2 hc2 hs2
    refine hend.1 H2 locs2 arr2 st2 (am_nil G h2 H2.size) r pc c2 s2 hK ?_ (am_nil_HM g0 (Nat.le_trans hSz hS2.1) hH2) hS2 hc2 hs2
    rcases hr with hr | hr | hr | ⟨-, -, -, -, -, -, -, hr⟩ | hr
    · exact Or.inl hr
    · exact Or.inr (Or.inl hr)
    · exact Or.inr (Or.inr (Or.inl hr))
    · omega
    · exact Or.inr (Or.inr (Or.inr (Or.inr hr)))
  · intro H2 locs2 arr2 st2 ast2 h2 pc k c2 s2 hK ht
    obtain ⟨ik, is, ic, tx, hk1, -⟩ := ht
    have := (hK _ (Int.le_refl _)).1
    omega
theorem am_sim2 {G : am_En} {l : Launch} (g0 : eB G = 0) {d m : Nat} {c : AC} {K : AK} (w : WPS d m c K) : am_Sim G l d m c K := w _ (am_sim_clo G l) (fun _ _ _ _ h => am_S2_ok g0 h)
/-- out of the abstract machine's run of the law, the real one's -/
theorem am_start {p : Program} {e : Env} {s : State} {m : MethodId} {below : List Frame} {meth : Method} {c : Code} (l : Launch) (hflags : l.flags = flags0) {b L : Nat} {xs : Nat → Int32} (hL : L ≤ 260) (C0 : lw_At p s m meth c b L xs)
    (hwp : WPS 2000 179 (0, am_ent 38 [(4, 0)], [], am_h0 L xs, 0, 0) am_K0) : W p l e room_1 s m #[Value.ref b] below meth c s.heap [] 0 0 (lw_Z below #[Value.ref b] s) (entryFrame m ([Value.ref b] : List Value).toArray 38) := by
  obtain ⟨hx, hb, hr, hml, hown, hts, hX, hbl, hlocks, hgv, htab⟩ := id C0
  obtain ⟨G, g0, g1, g2, g3, g4, hWK⟩ := am_world hts hgv hX hbl hL
  have htr : l.stackTraces = false := by
    unfold Launch.stackTraces
    rw [hflags]
    decide +kernel
  have hC : am_Cx G l 2000 179 p room_1 s m #[Value.ref b] meth c := ⟨hx, hb, hml, hown, am_hW hts, hWK, ⟨by decide, by decide, rfl, rfl⟩, hlocks, htr, fun hz => absurd hz (by decide)⟩
  rw [lg_entry_eq]
  have hd0 := Drawn.sameBut.refl s.drawn lw_cs
  refine am_sim2 (G := G) g0 hwp p e room_1 s m #[Value.ref b] below meth c _ hC ?_ ⟨?_, ?_⟩ s.heap [] _ [] ?_ (by rw [g1]; exact va_S.rf) (am_entry (vs := [.ref b]) ⟨by show Value.ref b = .ref (eb G); rw [g2], trivial⟩ (by decide)) trivial (Nat.zero_le _) (Nat.zero_le _)
  · exact htab
  · intro H locs arr st h r pc c0 s0 hk0 hr2 hH hS hc hs
    obtain ⟨-, rfl⟩ := hk0
    rcases hr2 with ⟨hd, x, ty, rfl, hx1, e1, e2, e3⟩ | ⟨-, -, -, -, -, e3⟩ | ⟨-, -, -, -, -, e3⟩ | ⟨-, -, -, -, -, -, -, e3⟩ | ⟨-, -, -, e3⟩
    · have : x = 1 := Int32.toInt_inj.mp hx1.symm
      subst this
      refine va_forget (fun q hq => by have := hS.2.2 q hq; rw [g1] at this; exact this) ?_
      refine W.widen (k := 600086) (n := 7301442) hc hs ?_
      refine W.base ?_
      exact lw_ret hd0 hx hb hr hlocks hd
    · exact absurd e3 (by decide)
    · exact absurd e3 (by decide)
    · exact absurd e3 (by decide)
    · exact absurd e3 (by decide)
  · intro H locs arr st ast h pc k c0 s0 hk0 ht
    obtain ⟨ik, is, ic, tx, hk1, -⟩ := ht
    have := (hk0 _ (Int.le_refl _)).1
    omega
  · exact am_start_HM g0 g1 g3 g4 hWK
