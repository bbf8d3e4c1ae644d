/-! ===== the reference's plan when a list has been read ===== -/
theorem mos_rg {va : Nat → Int} : ∀ {L : List Op} {s i : Int}, i ∈ mos va s L → s < i ∧ i < s + ((mcs va L).length : Int)
  | [], s, i, h => by cases h
  | o :: r, s, i, h => by
    have h' : i ∈ mo s o ++ mos va (s + ((mc va o).length : Int)) r := h
    show s < i ∧ i < s + ((mc va o ++ mcs va r).length : Int)
    rw [List.length_append]
    rcases List.mem_append.1 h' with y | y
    · have e : (mc va o).length = 3 ∧ (i = s + 1 ∨ i = s + 2) ∨ (mc va o).length = 2 ∧ i = s + 1 := by
        unfold mo at y
        unfold mc
        by_cases z : o.1 = 11
        · rw [if_pos z] at y ⊢
          refine Or.inl ⟨rfl, ?_⟩
          rcases List.mem_cons.1 y with y | y
          · exact Or.inl y
          · exact Or.inr (List.mem_singleton.1 y)
        · rw [if_neg z] at y ⊢
          by_cases z2 : 4 ≤ o.1 ∧ o.1 ≤ 8
          · rw [if_pos z2] at y
            rw [if_neg (by omega), if_pos z2]
            exact Or.inr ⟨rfl, List.mem_singleton.1 y⟩
          · rw [if_neg z2] at y
            cases y
      omega
    · have := mos_rg y
      omega
theorem mos_srt {va : Nat → Int} : ∀ {L : List Op} {s : Int}, (mos va s L).Pairwise (· < ·)
  | [], _ => List.Pairwise.nil
  | o :: r, s => by
    show (mo s o ++ mos va (s + ((mc va o).length : Int)) r).Pairwise (· < ·)
    rw [List.pairwise_append]
    refine ⟨?_, mos_srt, fun a ha b hb => ?_⟩
    · unfold mo
      split
      · refine List.Pairwise.cons (fun b hb => ?_) (List.pairwise_singleton _ _)
        rw [List.mem_singleton] at hb
        omega
      · split
        · exact List.pairwise_singleton _ _
        · exact List.Pairwise.nil
    · have h1 := mos_rg hb
      have h2 : a ∈ mos va s [o] := by
        show a ∈ mo s o ++ []
        rw [List.append_nil]
        exact ha
      have h3 := mos_rg h2
      have e : mcs va [o] = mc va o := List.append_nil _
      rw [e] at h3
      omega
section
variable {d : Nat} {h : AH} {q : Int} {K : AK}
end
section
variable {h h2 : AH} {q : Int} {f : TT} {ro va kd : Nat → Int} {E : Nat} {O : List Int}
/-- the code of a test -/
theorem spm_of (fi : FI ro va f E) (mm : ∀ k : Nat, k < E → (ro k = 12 ∨ ro k = 13) → am_m h 59 (k : Int) = f 11 (k : Int)) : ∀ {L : List Op} {p : Int}, RW (fun i => am_m h (q + 9) i) p (mcs va L) → (∀ i, p ≤ i → i < p + ((mcs va L).length : Int) → am_m h2 (q + 9) i = if i ∈ O then am_m h 59 (am_m h (q + 9) i) else am_m h (q + 9) i) → (∀ i, p ≤ i → i < p + ((mcs va L).length : Int) → (i ∈ O ↔ i ∈ mos va p L)) → (∀ o ∈ L, AR ro E o) → 0 ≤ p → p + ((mcs va L).length : Int) ≤ 800 → spm h2 q (p + ((mcs va L).length : Int)) p (L.map (rsl f))
  | [], p, _, _, _, _, h0, h1 => by
    have h1' : p + ((0 : Nat) : Int) ≤ 800 := h1
    exact ⟨by show p = p + ((0 : Nat) : Int); omega, h0, by omega⟩
  | o :: r, p, x, g, m, ar, h0, h1 => by
    have x' : RW (fun i => am_m h (q + 9) i) p (mc va o ++ mcs va r) := x
    have g' : ∀ i, p ≤ i → i < p + ((mc va o ++ mcs va r).length : Int) → am_m h2 (q + 9) i = if i ∈ O then am_m h 59 (am_m h (q + 9) i) else am_m h (q + 9) i := g
    have m' : ∀ i, p ≤ i → i < p + ((mc va o ++ mcs va r).length : Int) → (i ∈ O ↔ i ∈ mo p o ++ mos va (p + ((mc va o).length : Int)) r) := m
    have h1' : p + ((mc va o ++ mcs va r).length : Int) ≤ 800 := h1
    rw [List.length_append] at g' m' h1'
    rw [RW.app] at x'
    have en : p + ((mcs va (o :: r)).length : Int) = p + ((mc va o).length : Int) + ((mcs va r).length : Int) := by
      show p + ((mc va o ++ mcs va r).length : Int) = _
      rw [List.length_append]
      omega
    have rest : spm h2 q (p + ((mcs va (o :: r)).length : Int)) (p + ((mc va o).length : Int)) (r.map (rsl f)) := by
      rw [en]
      refine spm_of fi mm x'.2 (fun i z1 z2 => g' i (by omega) (by omega)) (fun i z1 z2 => ?_) (fun o ho => ar o (List.mem_cons_of_mem _ ho)) (by omega) (by omega)
      rw [m' i (by omega) (by omega)]
      constructor
      · intro y
        rcases List.mem_append.1 y with y | y
        · have h3 : i ∈ mos va p [o] := by
            show i ∈ mo p o ++ []
            rw [List.append_nil]
            exact y
          have := mos_rg h3
          have e : mcs va [o] = mc va o := List.append_nil _
          rw [e] at this
          omega
        · exact y
      · exact fun y => List.mem_append_right _ y
    have inO : ∀ i, p ≤ i → i < p + ((mc va o).length : Int) → (i ∈ O ↔ i ∈ mo p o) := fun i z1 z2 => by
      rw [m' i z1 (by omega)]
      constructor
      · intro y
        rcases List.mem_append.1 y with y | y
        · exact y
        · have := mos_rg y
          omega
      · exact fun y => List.mem_append_left _ y
    have gv : ∀ i, p ≤ i → i < p + ((mc va o).length : Int) → am_m h2 (q + 9) i = if i ∈ mo p o then am_m h 59 (am_m h (q + 9) i) else am_m h (q + 9) i := fun i z1 z2 => by
      rw [g' i z1 (by omega)]
      by_cases y : i ∈ O
      · rw [if_pos y, if_pos ((inO i z1 z2).1 y)]
      · rw [if_neg y, if_neg (fun w => y ((inO i z1 z2).2 w))]
    obtain ⟨a1, a2, a3, a4, a5, a6⟩ := ar o (List.mem_cons_self ..)
    have mm' : ∀ x : Int, 0 ≤ x → x < (E : Int) → (ro x.toNat = 12 ∨ ro x.toNat = 13) → am_m h 59 x = f 11 x := fun x x0 x1 xr => by
      have := mm x.toNat (by omega) xr
      rw [show ((x.toNat : Nat) : Int) = x by omega] at this
      exact this
    show spm h2 q (p + ((mcs va (o :: r)).length : Int)) p (rsl f o :: r.map (rsl f))
    unfold spm
    by_cases z : o.1 = 11
    · have ec : mc va o = [7, o.2.1, o.2.2] := if_pos z
      have eo : mo p o = [p + 1, p + 2] := if_pos z
      rw [ec] at x' gv rest
      rw [eo] at gv
      obtain ⟨⟨x1, x2, x3, -⟩, -⟩ := x'
      have x2' : am_m h (q + 9) (p + 1) = o.2.1 := x2
      have x3' : am_m h (q + 9) (p + 1 + 1) = o.2.2 := x3
      rw [show p + 1 + 1 = p + 2 by omega] at x3'
      have l3 : ((([7, o.2.1, o.2.2] : List Int)).length : Int) = 3 := rfl
      rw [l3] at gv rest
      have z' : (rsl f o).1 = 11 := z
      obtain ⟨b1, b2⟩ := a6 z
      refine ⟨?_, h0, ?_⟩
      · rw [gv p (Int.le_refl _) (by omega), if_neg, (show am_m h (q + 9) p = 7 from x1), z']
        · rfl
        · intro y
          rcases List.mem_cons.1 y with y | y
          · omega
          · have := List.mem_singleton.1 y
            omega
      · rw [if_pos z']
        refine ⟨?_, ?_, rest⟩
        · rw [gv (p + 1) (by omega) (by omega), if_pos (List.mem_cons_self ..), x2']
          exact mm' _ a1.1 b1.2 (Or.inr b1.1)
        · rw [gv (p + 2) (by omega) (by omega), if_pos (List.mem_cons_of_mem _ (List.mem_cons_self ..)), x3']
          exact mm' _ a2.1 b2.2 (Or.inl b2.1)
    · have z' : ¬ (rsl f o).1 = 11 := z
      by_cases z1 : o.1 = 1
      · have ec : mc va o = [32, va o.2.1.toNat] := by
          unfold mc
          rw [if_neg z, if_pos z1]
        have eo : mo p o = [] := by
          unfold mo
          rw [if_neg z, if_neg (by omega)]
        rw [ec] at x' gv rest
        rw [eo] at gv
        obtain ⟨⟨x1, x2, -⟩, -⟩ := x'
        have x2' : am_m h (q + 9) (p + 1) = va o.2.1.toNat := x2
        have l2 : ((([32, va o.2.1.toNat] : List Int)).length : Int) = 2 := rfl
        rw [l2] at gv rest
        have z1' : (rsl f o).1 = 1 := z1
        obtain ⟨b1, b2⟩ := a3 z1
        refine ⟨?_, h0, ?_⟩
        · rw [gv p (Int.le_refl _) (by omega), if_neg (by intro y; cases y), (show am_m h (q + 9) p = 32 from x1), z1']
          rfl
        · rw [if_neg z', if_pos (Or.inl z1')]
          refine ⟨?_, rest⟩
          rw [gv (p + 1) (by omega) (by omega), if_neg (by intro y; cases y), x2']
          have := fi.m14 o.2.1.toNat (by omega) b1
          rw [show ((o.2.1.toNat : Nat) : Int) = o.2.1 by omega] at this
          exact this.symm
      · by_cases z2 : 4 ≤ o.1 ∧ o.1 ≤ 8
        · have ec : mc va o = [mco o.1, o.2.1] := by
            unfold mc
            rw [if_neg z, if_neg z1, if_pos z2]
          have eo : mo p o = [p + 1] := by
            unfold mo
            rw [if_neg z, if_pos z2]
          rw [ec] at x' gv rest
          rw [eo] at gv
          obtain ⟨⟨x1, x2, -⟩, -⟩ := x'
          have x2' : am_m h (q + 9) (p + 1) = o.2.1 := x2
          have l2 : ((([mco o.1, o.2.1] : List Int)).length : Int) = 2 := rfl
          rw [l2] at gv rest
          have z2' : 4 ≤ (rsl f o).1 ∧ (rsl f o).1 ≤ 8 := z2
          refine ⟨?_, h0, ?_⟩
          · rw [gv p (Int.le_refl _) (by omega), if_neg, (show am_m h (q + 9) p = mco o.1 from x1)]
            · rfl
            · intro y
              have := List.mem_singleton.1 y
              omega
          · rw [if_neg z', if_pos (Or.inr z2')]
            refine ⟨?_, rest⟩
            rw [gv (p + 1) (by omega) (by omega), if_pos (List.mem_cons_self ..), x2']
            by_cases z6 : o.1 = 6 ∨ o.1 = 7
            · obtain ⟨b1, b2⟩ := a5 z6
              exact mm' _ a1.1 b2 (Or.inr b1)
            · obtain ⟨b1, b2⟩ := a4 (by omega)
              exact mm' _ a1.1 b2 (Or.inl b1)
        · have ec : mc va o = [mco o.1] := by
            unfold mc
            rw [if_neg z, if_neg z1, if_neg z2]
          have eo : mo p o = [] := by
            unfold mo
            rw [if_neg z, if_neg z2]
          rw [ec] at x' gv rest
          rw [eo] at gv
          obtain ⟨⟨x1, -⟩, -⟩ := x'
          have l1 : ((([mco o.1] : List Int)).length : Int) = 1 := rfl
          rw [l1] at gv rest
          refine ⟨?_, h0, ?_⟩
          · rw [gv p (Int.le_refl _) (by omega), if_neg (by intro y; cases y), (show am_m h (q + 9) p = mco o.1 from x1)]
            rfl
          · have z3' : ¬ ((rsl f o).1 = 1 ∨ (4 ≤ (rsl f o).1 ∧ (rsl f o).1 ≤ 8)) := fun y => by
              have y' : o.1 = 1 ∨ (4 ≤ o.1 ∧ o.1 ≤ 8) := y
              omega
            rw [if_neg z', if_neg z3']
            exact rest
/-- all bans -/
theorem spm_all {d : Nat × List Op} {h0 : AH} (fi : FI ro va f E) (mm : ∀ k : Nat, k < E → (ro k = 12 ∨ ro k = 13) → am_m h 59 (k : Int) = f 11 (k : Int)) (e7 : ∀ i, am_m h2 (q + 7) i = am_m h0 (q + 7) i) (e8 : ∀ i, am_m h2 (q + 8) i = am_m h0 (q + 8) i) : ∀ {Bs : List (Nat × List Op)} {k : Nat} {p : Int}, XQ h0 q va k p Bs → RW (fun i => am_m h (q + 9) i) p (mcs va (bos Bs)) → (∀ i, p ≤ i → i < p + ((mcs va (bos Bs)).length : Int) → am_m h2 (q + 9) i = if i ∈ O then am_m h 59 (am_m h (q + 9) i) else am_m h (q + 9) i) → (∀ i, p ≤ i → i < p + ((mcs va (bos Bs)).length : Int) → (i ∈ O ↔ i ∈ mos va p (bos Bs))) → (∀ b ∈ Bs, ∀ o ∈ b.2, AR ro E o) → 0 ≤ p → p + ((mcs va (bos Bs)).length : Int) ≤ 800 → ∀ n : Nat, n < Bs.length → k + n < 12 → spm h2 q (am_m h2 (q + 8) ((k + n : Nat) : Int)) (am_m h2 (q + 7) ((k + n : Nat) : Int)) ((Bs.getD n d).2.map (rsl f))
  | [], _, _, _, _, _, _, _, _, _, n, hn, _ => absurd hn (Nat.not_lt_zero n)
  | b :: r, k, p, xq, x, g, m, ar, h0', h1, n, hn, hk => by
    have x' : RW (fun i => am_m h (q + 9) i) p (mcs va (b.2 ++ bos r)) := x
    have g' : ∀ i, p ≤ i → i < p + ((mcs va (b.2 ++ bos r)).length : Int) → am_m h2 (q + 9) i = if i ∈ O then am_m h 59 (am_m h (q + 9) i) else am_m h (q + 9) i := g
    have m' : ∀ i, p ≤ i → i < p + ((mcs va (b.2 ++ bos r)).length : Int) → (i ∈ O ↔ i ∈ mos va p (b.2 ++ bos r)) := m
    have h1' : p + ((mcs va (b.2 ++ bos r)).length : Int) ≤ 800 := h1
    rw [mcs_app] at x' g' m' h1'
    rw [mos_app] at m'
    rw [List.length_append] at g' m' h1'
    rw [RW.app] at x'
    cases n with
    | zero =>
      obtain ⟨a1, a2⟩ := xq.1 (by omega)
      rw [e7, e8, show k + 0 = k by omega, a1, a2]
      refine spm_of fi mm x'.1 (fun i z1 z2 => g' i z1 (by omega)) (fun i z1 z2 => ?_) (ar b (List.mem_cons_self ..)) h0' (by omega)
      rw [m' i z1 (by omega)]
      constructor
      · intro y
        rcases List.mem_append.1 y with y | y
        · exact y
        · have := mos_rg y
          omega
      · exact fun y => List.mem_append_left _ y
    | succ n =>
      rw [show k + (n + 1) = k + 1 + n by omega]
      refine spm_all fi mm e7 e8 (Bs := r) xq.2 x'.2 (fun i z1 z2 => g' i (by omega) (by omega)) (fun i z1 z2 => ?_) (fun b hb => ar b (List.mem_cons_of_mem _ hb)) (by omega) (by omega) n (Nat.lt_of_succ_lt_succ hn) (by omega)
      rw [m' i (by omega) (by omega)]
      constructor
      · intro y
        rcases List.mem_append.1 y with y | y
        · have := mos_rg y
          omega
        · exact y
      · exact fun y => List.mem_append_right _ y
/-- a test of the class is not too long -/
theorem spc_len {h : AH} {q : Int} : ∀ {L : List Op} {p : Int}, spc h q p L → p + (L.length : Int) < am_m h q 5
  | [], p, x => by
    show p + ((0 : Nat) : Int) < _
    have := x.2.2
    omega
  | o :: r, p, x => by
    unfold spc at x
    show p + ((r.length + 1 : Nat) : Int) < _
    split at x
    · have := spc_len x.2.2.2.2
      omega
    · have := spc_len x.2.2
      omega
theorem CT.len {h : AH} {q : Int} {pp : TT} {tt : Int → List Op} (x : CT h q pp tt) {i : Int} (h0 : 0 ≤ i) (h1 : i < pp 3 0) : ((tt i).length : Int) ≤ 400 := by
  have a := spc_len (x.2 i h0 h1).2
  have b := (spc_bd (x.2 i h0 h1).2).1
  have c := x.1
  omega
end
