/-! ===== the class's plan when a list has been read ===== -/
theorem RW.map {A B : Type} {g : Int → A} (φ : A → B) : ∀ {L : List A} {j : Int}, RW g j L → RW (fun i => φ (g i)) j (L.map φ)
  | [], _, _ => trivial
  | v :: r, j, x => ⟨congrArg φ x.1, RW.map φ x.2⟩
def mixh (h h2 : AH) (l n : Int) : AH := (h2.1, h2.2.1, fun b i => if l ≤ b ∧ b < l + n then am_m h2 b i else if b < am_n h then am_m h b i else am_m h2 b i, h2.2.2.2)
theorem Fr.split {h h2 : AH} {l1 n1 l2 n2 : Int} (a : am_n h ≤ am_n h2 ∧ am_sl h2 = am_sl h ∧ (∀ j, am_sx h2 j = am_sx h j) ∧ ∀ b, b < am_n h → am_t h2 b = am_t h b ∧ am_l h2 b = am_l h b) (e : ∀ b i, b < am_n h → ¬ (l1 ≤ b ∧ b < l1 + n1) → ¬ (l2 ≤ b ∧ b < l2 + n2) → am_m h2 b i = am_m h b i) : ∃ hA, Fr l1 n1 h hA ∧ Fr l2 n2 hA h2 := by
  have em : ∀ b i, am_m (mixh h h2 l1 n1) b i = if l1 ≤ b ∧ b < l1 + n1 then am_m h2 b i else if b < am_n h then am_m h b i else am_m h2 b i := fun _ _ => rfl
  refine ⟨mixh h h2 l1 n1, ⟨a.1, a.2.1, a.2.2.1, a.2.2.2, fun b hb z i => ?_⟩, ⟨Int.le_refl _, rfl, fun _ => rfl, fun _ _ => ⟨rfl, rfl⟩, fun b hb z i => ?_⟩⟩
  · rw [em, if_neg z, if_pos hb]
  · rw [em]
    by_cases y : l1 ≤ b ∧ b < l1 + n1
    · rw [if_pos y]
    · rw [if_neg y]
      by_cases y2 : b < am_n h
      · rw [if_pos y2]
        exact e b i y2 y z
      · rw [if_neg y2]
section
variable {h : AH} {q : Int} {f : TT}
/-- the steps of a test, then a stop -/
theorem spc_of {pre post : List (Int × Int)} : ∀ {L : List Op} {p : Int}, RW (fun i => am_m h (q + 8) i) p ((css L).map Prod.fst ++ [0]) → RW (fun i => am_m h (q + 9) i) p ((css L).map (fun s => f 11 s.2)) → 0 ≤ p → p + ((css L).length : Int) < am_m h q 5 → spc h q p (L.map (rsl f))
  | [], p, x, _, h0, h1 => by
    have h1' : p + ((0 : Nat) : Int) < am_m h q 5 := h1
    exact ⟨x.1, h0, by omega⟩
  | o :: r, p, x, y, h0, h1 => by
    have x' : RW (fun i => am_m h (q + 8) i) p ((cs o ++ css r).map Prod.fst ++ [0]) := x
    have y' : RW (fun i => am_m h (q + 9) i) p ((cs o ++ css r).map (fun s => f 11 s.2)) := y
    have h1' : p + ((cs o ++ css r).length : Int) < am_m h q 5 := h1
    rw [List.map_append, List.append_assoc, RW.app, List.length_map] at x'
    rw [List.map_append, RW.app, List.length_map] at y'
    rw [List.length_append] at h1'
    show spc h q p (rsl f o :: r.map (rsl f))
    unfold spc
    by_cases z : o.1 = 11
    · have ec : cs o = [(1, o.2.1), (1, o.2.2), (11, 0)] := if_pos z
      rw [ec] at x' y' h1'
      obtain ⟨⟨x1, x2, x3, -⟩, x4⟩ := x'
      obtain ⟨⟨y1, y2, -⟩, y4⟩ := y'
      have z' : (rsl f o).1 = 11 := z
      rw [if_pos z']
      have x2' : am_m h (q + 8) (p + 1) = 1 := x2
      have x3' : am_m h (q + 8) (p + 1 + 1) = 11 := x3
      have y2' : am_m h (q + 9) (p + 1) = f 11 o.2.2 := y2
      rw [show p + 1 + 1 = p + 2 by omega] at x3'
      exact ⟨⟨x1, y1⟩, ⟨x2', y2'⟩, x3', h0, spc_of (pre := pre) (post := post) x4 y4 (by show 0 ≤ p + 3; omega) (by have h2 : p + ((3 + (css r).length : Nat) : Int) < am_m h q 5 := h1'; show p + 3 + _ < _; omega)⟩
    · have ec : cs o = [(o.1, o.2.1)] := if_neg z
      rw [ec] at x' y' h1'
      obtain ⟨⟨x1, -⟩, x4⟩ := x'
      obtain ⟨⟨y1, -⟩, y4⟩ := y'
      have z' : ¬ (rsl f o).1 = 11 := z
      rw [if_neg z']
      exact ⟨⟨x1, y1⟩, h0, spc_of (pre := pre) (post := post) x4 y4 (by show 0 ≤ p + 1; omega) (by have h2 : p + ((1 + (css r).length : Nat) : Int) < am_m h q 5 := h1'; show p + 1 + _ < _; omega)⟩
/-- all bans -/
theorem spc_all {h0 : AH} {E : Nat} {d : Nat × List Op} : ∀ {Bs : List (Nat × List Op)} {k p : Int}, XB h0 E p Bs → RW (fun i => am_m h (q + 7) i) k ((Bs.map Prod.fst).map (fun t : Nat => am_m h0 29 (t : Int))) → RW (fun i => am_m h (q + 8) i) p ((bss Bs).map Prod.fst) → RW (fun i => am_m h (q + 9) i) p ((bss Bs).map (fun s => f 11 s.2)) → 0 ≤ p → p + ((bss Bs).length : Int) ≤ am_m h q 5 → ∀ n : Nat, n < Bs.length → spc h q (am_m h (q + 7) (k + (n : Int))) ((Bs.getD n d).2.map (rsl f))
  | [], _, _, _, _, _, _, _, _, n, hn => absurd hn (Nat.not_lt_zero n)
  | b :: r, k, p, xb, x7, x8, x9, h0, h1, n, hn => by
    have x8' : RW (fun i => am_m h (q + 8) i) p ((css b.2 ++ ((0, 0) :: bss r)).map Prod.fst) := x8
    have x9' : RW (fun i => am_m h (q + 9) i) p ((css b.2 ++ ((0, 0) :: bss r)).map (fun s => f 11 s.2)) := x9
    have h1' : p + ((css b.2 ++ ((0, 0) :: bss r)).length : Int) ≤ am_m h q 5 := h1
    rw [List.length_append] at h1'
    have h1'' : p + (((css b.2).length + ((bss r).length + 1) : Nat) : Int) ≤ am_m h q 5 := h1'
    rw [List.map_append, RW.app, List.length_map] at x8' x9'
    cases n with
    | zero =>
      have e : am_m h (q + 7) (k + ((0 : Nat) : Int)) = p := by
        rw [show k + ((0 : Nat) : Int) = k by omega]
        exact x7.1.trans xb.1
      rw [e]
      exact spc_of (pre := []) (post := []) (RW.app.2 ⟨x8'.1, by rw [List.length_map]; exact ⟨x8'.2.1, trivial⟩⟩) x9'.1 h0 (by show p + ((css b.2).length : Int) < am_m h q 5; omega)
    | succ n =>
      rw [show k + ((n + 1 : Nat) : Int) = k + 1 + (n : Int) by omega]
      exact spc_all (Bs := r) (k := k + 1) xb.2.2 x7.2 x8'.2.2 x9'.2.2 (by omega) (by omega) n (Nat.lt_of_succ_lt_succ hn)
end
/-- steps' tokens -/
theorem css_mem {L : List Op} {s : Int × Int} (h : s ∈ css L) : s.2 = 0 ∨ ∃ o ∈ L, s.2 = o.2.1 ∨ s.2 = o.2.2 := by
  induction L with
  | nil => cases h
  | cons o r ih =>
    have h' : s ∈ cs o ++ css r := h
    rcases List.mem_append.1 h' with y | y
    · unfold cs at y
      split at y
      · rcases List.mem_cons.1 y with e | y
        · exact Or.inr ⟨o, List.mem_cons_self .., Or.inl (by rw [e])⟩
        · rcases List.mem_cons.1 y with e | y
          · exact Or.inr ⟨o, List.mem_cons_self .., Or.inr (by rw [e])⟩
          · rw [List.mem_singleton] at y
            exact Or.inl (by rw [y])
      · rw [List.mem_singleton] at y
        exact Or.inr ⟨o, List.mem_cons_self .., Or.inl (by rw [y])⟩
    · rcases ih y with e | ⟨o2, h2, e⟩
      · exact Or.inl e
      · exact Or.inr ⟨o2, List.mem_cons_of_mem _ h2, e⟩
theorem bss_mem {L : List (Nat × List Op)} {s : Int × Int} (h : s ∈ bss L) : L ≠ [] ∧ (s.2 = 0 ∨ ∃ b ∈ L, ∃ o ∈ b.2, s.2 = o.2.1 ∨ s.2 = o.2.2) := by
  induction L with
  | nil => cases h
  | cons b r ih =>
    refine ⟨List.cons_ne_nil _ _, ?_⟩
    have h' : s ∈ css b.2 ++ ((0, 0) :: bss r) := h
    rcases List.mem_append.1 h' with y | y
    · rcases css_mem y with e | ⟨o, h2, e⟩
      · exact Or.inl e
      · exact Or.inr ⟨b, List.mem_cons_self .., o, h2, e⟩
    · rcases List.mem_cons.1 y with e | y
      · exact Or.inl (by rw [e])
      · rcases (ih y).2 with e | ⟨b2, h2, o, h3, e⟩
        · exact Or.inl e
        · exact Or.inr ⟨b2, List.mem_cons_of_mem _ h2, o, h3, e⟩
/-- the tests of a list -/
def ttF (Bs : List (Nat × List Op)) (f : TT) (i : Int) : List Op := (Bs.getD i.toNat (0, [])).2.map (rsl f)
theorem getD_mem {A : Type} {d : A} : ∀ {L : List A} {n : Nat}, n < L.length → L.getD n d ∈ L
  | [], n, h => absurd h (Nat.not_lt_zero n)
  | _ :: _, 0, _ => List.mem_cons_self ..
  | _ :: r, n + 1, h => List.mem_cons_of_mem _ (getD_mem (L := r) (Nat.lt_of_succ_lt_succ h))
section
variable {h h1 h2 h3 : AH} {q : Int} {f : TT} {ro va kd : Nat → Int} {E N : Nat} {Bs : List (Nat × List Op)} {R : List Int}
/-- the plan, all told -/
theorem CK.plan (x : CK h q ro va E h2 E f) (fi : FI ro va f E) (bl : B0 ro E) (fr : Fr 0 53 h2 h3) (ee : ∀ b i, b ≠ q + 9 → am_m h3 b i = am_m h2 b i) : CP h3 q f ∧ CB h3 q f := by
  obtain ⟨b1, b2, b3, b4, b5, b6⟩ := bl
  have hq := x.g.qd
  have c1 := fi.c1
  have c2 := fi.c2
  have c3 := fi.c3
  have c4 := fi.c4
  have hn := x.g.n
  have hn2 := x.fk.1.1
  have hn3 := fr.1
  have tt : ∀ b, b < 53 → am_t h3 b = am_t h b ∧ am_l h3 b = am_l h b := fun b hb => ⟨(fr.2.2.2.1 b (by omega)).1.trans (x.tg hb), (fr.2.2.2.1 b (by omega)).2.trans (x.lg hb)⟩
  have p := x.g.p
  have e4 : ∀ i, 5 ≤ i → am_m h3 q i = am_m h q i := fun i hi => (ee _ _ (by omega)).trans (x.mg (by omega) (by omega) (by omega) (by omega) (by omega))
  have p4 : P4 h3 q := ⟨(tt _ (by omega)).1.trans p.t, (e4 _ (by decide)).trans p.f6, (tt _ (by omega)).1.trans p.t1, (tt _ (by omega)).2.trans p.l1, (e4 _ (by decide)).trans p.f7, (tt _ (by omega)).1.trans p.t2, (tt _ (by omega)).2.trans p.l2, (e4 _ (by decide)).trans p.f8, (tt _ (by omega)).1.trans p.t3, (tt _ (by omega)).2.trans p.l3, (e4 _ (by decide)).trans p.f9, (tt _ (by omega)).1.trans p.t4, (tt _ (by omega)).2.trans p.l4, (e4 _ (by decide)).trans p.f10, (tt _ (by omega)).1.trans p.t5, (tt _ (by omega)).2.trans p.l5, (e4 _ (by decide)).trans p.f11, (tt _ (by omega)).1.trans p.t6, (tt _ (by omega)).2.trans p.l6, (e4 _ (by decide)).trans p.f12, (tt _ (by omega)).1.trans p.t7, (tt _ (by omega)).2.trans p.l7, (e4 _ (by decide)).trans p.f13, (tt _ (by omega)).1.trans p.t8, (tt _ (by omega)).2.trans p.l8, (e4 _ (by decide)).trans p.f14, (tt _ (by omega)).1.trans p.t9, (tt _ (by omega)).2.trans p.l9, p.p, by omega⟩
  have rd : ∀ as off b, RD as off b → ∀ i, 0 ≤ i → i < (cn ro as E : Int) → am_m h3 (q + off) i = f b i := fun as off b hr i h0 h1 => by
    have a := x.rd as off b hr i.toNat (by omega)
    rw [show ((i.toNat : Nat) : Int) = i by omega] at a
    exact (ee _ _ (by unfold RD at hr; omega)).trans a
  have cs : ∀ as c, NC as c → am_m h3 q c = (cn ro as E : Int) := fun as c hc => (ee _ _ (by omega)).trans (x.cs as c hc)
  refine ⟨⟨p4, (cs 1 0 (by unfold NC; omega)).trans c1.1.symm, (cs 2 1 (by unfold NC; omega)).trans c2.1.symm, (cs 3 2 (by unfold NC; omega)).trans c3.1.symm, (cs 4 3 (by unfold NC; omega)).trans c4.1.symm, fun i h0 h1 => rd 5 1 4 (by unfold RD; omega) i h0 (by omega), fun i h0 h1 => ⟨rd 9 2 5 (by unfold RD; omega) i h0 (by omega), rd 7 4 6 (by unfold RD; omega) i h0 (by omega)⟩, fun i h0 h1 => rd 11 6 7 (by unfold RD; omega) i h0 (by omega)⟩, (ee _ _ (by omega)).trans x.bg, fun i h0 h1 => ⟨rd 6 3 9 (by unfold RD; omega) i h0 (by omega), ?_⟩⟩
  have fn := x.fn i.toNat (by omega)
  rw [show ((i.toNat : Nat) : Int) = i by omega] at fn
  rw [ee _ _ (by omega)]
  exact fn
theorem CK.tests {h0 : AH} (x : CK h q ro va E h2 E f) (fi : FI ro va f E) (fr : Fr 0 53 h2 h3) (ee : ∀ b i, b ≠ q + 9 → am_m h3 b i = am_m h2 b i) (xl : am_m h q 5 = ((bss Bs).length : Int)) (st : RW (fun j => am_m h (q + 8) j) 0 ((bss Bs).map Prod.fst)) (xb : XB h0 E 0 Bs) (e29 : ∀ i, am_m h 29 i = am_m h0 29 i) (r9 : RW (fun i => am_m h3 (q + 9) i) 0 ((bss Bs).map (fun s => f 11 s.2))) (nb : nl ro 4 E = Bs.map Prod.fst) (ty : ∀ b ∈ Bs, tu b.2 [] [true] ∧ ∀ o ∈ b.2, AR ro E o) (lb : (bss Bs).length ≤ 400) : CT h3 q f (ttF Bs f) := by
  have hq := x.g.qd
  have c4 := fi.c4
  have e5 : am_m h3 q 5 = ((bss Bs).length : Int) := ((ee _ _ (by omega)).trans (x.mg (by omega) (by omega) (by omega) (by omega) (by omega))).trans xl
  have lenB : Bs.length = cn ro 4 E := by rw [← nl_len, nb, List.length_map]
  have x7 : RW (fun i => am_m h3 (q + 7) i) 0 ((Bs.map Prod.fst).map (fun t : Nat => am_m h0 29 (t : Int))) := by
    have a := x.nb 4 (q + 7) (Or.inr (Or.inr (Or.inr ⟨rfl, rfl⟩)))
    rw [nb] at a
    have e : (Bs.map Prod.fst).map (vv h va 4) = (Bs.map Prod.fst).map (fun t : Nat => am_m h0 29 (t : Int)) := List.map_congr_left (fun k _ => e29 _)
    rw [e] at a
    exact RW.cg (fun i _ _ => ee _ _ (by omega)) a
  have x8 : RW (fun i => am_m h3 (q + 8) i) 0 ((bss Bs).map Prod.fst) := RW.cg (fun i _ _ => (ee _ _ (by omega)).trans (x.mg (by omega) (by omega) (by omega) (by omega) (by omega))) st
  refine ⟨by omega, fun i h0 h1 => ?_⟩
  have hi : i.toNat < Bs.length := by omega
  have mem := getD_mem (d := ((0, []) : Nat × List Op)) hi
  refine ⟨tst_of fi (ty _ mem).1 (ty _ mem).2, ?_⟩
  have := spc_all (d := (0, [])) xb x7 x8 r9 (Int.le_refl _) (by omega) i.toNat hi
  rw [show (0 : Int) + ((i.toNat : Nat) : Int) = i by omega] at this
  exact this
end
