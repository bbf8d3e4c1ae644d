/-! ===== the reference's teach: what is wanted for it ===== -/
theorem M9.cg {h h2 : AH} {q s e : Int} (x : M9 h 53 q s e) (b : BS h h2) (ee : ∀ i, (i = 1 ∨ (5 ≤ i ∧ i ≤ 9) ∨ i = 12 ∨ i = 14 ∨ i = 15) → am_m h2 53 i = am_m h 53 i) : M9 h2 53 q s e := by
  have hb := x.b
  have bn := b.1
  have tt : ∀ c, c < 60 → am_t h2 c = am_t h c ∧ am_l h2 c = am_l h c := fun c hc => b.2.2.2 c (by omega)
  exact ⟨(tt 53 (by decide)).1.trans x.t, (ee 12 (by decide)).trans x.f12, (ee 14 (by decide)).trans x.f14, (ee 15 (by decide)).trans x.f15, (ee 1 (by decide)).trans x.f1, (tt (53 + 1) (by decide)).1.trans x.t1, (tt (53 + 1) (by decide)).2.trans x.l1, (ee 5 (by decide)).trans x.f5, (tt (53 + 2) (by decide)).1.trans x.t2, (tt (53 + 2) (by decide)).2.trans x.l2, (ee 6 (by decide)).trans x.f6, (tt (53 + 3) (by decide)).1.trans x.t3, (tt (53 + 3) (by decide)).2.trans x.l3, (ee 7 (by decide)).trans x.f7, (tt (53 + 4) (by decide)).1.trans x.t4, (tt (53 + 4) (by decide)).2.trans x.l4, (ee 8 (by decide)).trans x.f8, (tt (53 + 5) (by decide)).1.trans x.t5, (tt (53 + 5) (by decide)).2.trans x.l5, (ee 9 (by decide)).trans x.f9, (tt (53 + 6) (by decide)).1.trans x.t6, (tt (53 + 6) (by decide)).2.trans x.l6, x.p, by omega⟩
theorem P7.cg {h h2 : AH} {q : Int} (x : P7 h q) (b : BS h h2) (ee : ∀ i, (i = 1 ∨ i = 3 ∨ i = 4 ∨ i = 5 ∨ i = 7 ∨ (11 ≤ i ∧ i ≤ 14) ∨ i = 16) → am_m h2 q i = am_m h q i) : P7 h2 q := by
  have hb := x.b
  have bn := b.1
  have tt : ∀ c, c ≤ q + 10 → am_t h2 c = am_t h c ∧ am_l h2 c = am_l h c := fun c hc => b.2.2.2 c (by omega)
  exact ⟨(tt q (by omega)).1.trans x.t, (ee 1 (by decide)).trans x.f1, (tt (q + 1) (by omega)).1.trans x.t1, (tt (q + 1) (by omega)).2.trans x.l1, (ee 3 (by decide)).trans x.f3, (tt (q + 2) (by omega)).1.trans x.t2, (tt (q + 2) (by omega)).2.trans x.l2, (ee 4 (by decide)).trans x.f4, (tt (q + 3) (by omega)).1.trans x.t3, (tt (q + 3) (by omega)).2.trans x.l3, (ee 5 (by decide)).trans x.f5, (tt (q + 4) (by omega)).1.trans x.t4, (tt (q + 4) (by omega)).2.trans x.l4, (ee 7 (by decide)).trans x.f7, (tt (q + 5) (by omega)).1.trans x.t5, (tt (q + 5) (by omega)).2.trans x.l5, (ee 11 (by decide)).trans x.f11, (tt (q + 6) (by omega)).1.trans x.t6, (tt (q + 6) (by omega)).2.trans x.l6, (ee 12 (by decide)).trans x.f12, (tt (q + 7) (by omega)).1.trans x.t7, (tt (q + 7) (by omega)).2.trans x.l7, (ee 13 (by decide)).trans x.f13, (tt (q + 8) (by omega)).1.trans x.t8, (tt (q + 8) (by omega)).2.trans x.l8, (ee 14 (by decide)).trans x.f14, (tt (q + 9) (by omega)).1.trans x.t9, (tt (q + 9) (by omega)).2.trans x.l9, (ee 16 (by decide)).trans x.f16, (tt (q + 10) (by omega)).1.trans x.t10, (tt (q + 10) (by omega)).2.trans x.l10, x.p, by omega⟩
/-- what stands where names' numbers go: tokens -/
theorem mos_val {ro va : Nat → Int} {E : Nat} {g : Int → Int} : ∀ {L : List Op} {s i : Int}, RW g s (mcs va L) → (∀ o ∈ L, AR ro E o) → i ∈ mos va s L → 0 ≤ g i ∧ g i < (E : Int)
  | [], s, i, _, _, h => by cases h
  | o :: r, s, i, x, ar, h => by
    have x' : RW g s (mc va o ++ mcs va r) := x
    have h' : i ∈ mo s o ++ mos va (s + ((mc va o).length : Int)) r := h
    rw [RW.app] at x'
    obtain ⟨a1, a2, a3, a4, a5, a6⟩ := ar o (List.mem_cons_self ..)
    rcases List.mem_append.1 h' with y | y
    · unfold mo at y
      by_cases z : o.1 = 11
      · rw [if_pos z] at y
        have ec : mc va o = [7, o.2.1, o.2.2] := if_pos z
        rw [ec] at x'
        obtain ⟨⟨x1, x2, x3, -⟩, -⟩ := x'
        have x3' : g (s + 1 + 1) = o.2.2 := x3
        rw [show s + 1 + 1 = s + 2 by omega] at x3'
        obtain ⟨b1, b2⟩ := a6 z
        rcases List.mem_cons.1 y with y | y
        · rw [y, x2]
          exact ⟨a1.1, b1.2⟩
        · rw [List.mem_singleton.1 y, x3']
          exact ⟨a2.1, b2.2⟩
      · rw [if_neg z] at y
        by_cases z2 : 4 ≤ o.1 ∧ o.1 ≤ 8
        · rw [if_pos z2] at y
          have ec : mc va o = [mco o.1, o.2.1] := by
            unfold mc
            rw [if_neg z, if_neg (by omega), if_pos z2]
          rw [ec] at x'
          obtain ⟨⟨x1, x2, -⟩, -⟩ := x'
          rw [List.mem_singleton.1 y, x2]
          by_cases z6 : o.1 = 6 ∨ o.1 = 7
          · exact ⟨a1.1, (a5 z6).2⟩
          · exact ⟨a1.1, (a4 (by omega)).2⟩
        · rw [if_neg z2] at y
          cases y
    · exact mos_val x'.2 (fun o ho => ar o (List.mem_cons_of_mem _ ho)) y
theorem bos_mem {L : List (Nat × List Op)} {o : Op} (h : o ∈ bos L) : ∃ b ∈ L, o ∈ b.2 := by
  induction L with
  | nil => cases h
  | cons b r ih =>
    have h' : o ∈ b.2 ++ bos r := h
    rcases List.mem_append.1 h' with y | y
    · exact ⟨b, List.mem_cons_self .., y⟩
    · obtain ⟨b2, h2, h3⟩ := ih y
      exact ⟨b2, List.mem_cons_of_mem _ h2, h3⟩
section
variable {h0 h1 h2 : AH} {q : Int} {ro va kd : Nat → Int} {E : Nat} {f : TT}
end
/-- what the reference's teach may have changed, the new plan apart -/
def RX (h h2 : AH) : Prop := BS h h2 ∧ ∀ b i, b < am_n h → ¬ (b = 53 ∧ (i = 0 ∨ i = 2 ∨ i = 3 ∨ i = 10 ∨ i = 11 ∨ i = 13)) → ¬ (55 ≤ b ∧ b ≤ 59) → am_m h2 b i = am_m h b i
theorem RX.rf {h : AH} : RX h h := ⟨⟨Int.le_refl _, rfl, fun _ => rfl, fun _ _ => ⟨rfl, rfl⟩⟩, fun _ _ _ _ _ => rfl⟩
theorem RX.w {h h1 : AH} {b i v : Int} (x : RX h h1) (z : (b = 53 ∧ (i = 0 ∨ i = 2 ∨ i = 3 ∨ i = 10 ∨ i = 11 ∨ i = 13)) ∨ (55 ≤ b ∧ b ≤ 59)) : RX h (am_w h1 b i v) := ⟨x.1, fun c j hc z1 z2 => by rw [am_m_w, if_neg (by omega)]; exact x.2 c j hc z1 z2⟩
/-- a step behind which nothing of the old heap changed but those places -/
theorem RX.st {h h1 h2 : AH} (x : RX h h1) (b : BS h1 h2) (e : ∀ c j, c < am_n h → ¬ (c = 53 ∧ (j = 0 ∨ j = 2 ∨ j = 3 ∨ j = 10 ∨ j = 11 ∨ j = 13)) → ¬ (55 ≤ c ∧ c ≤ 59) → am_m h2 c j = am_m h1 c j) : RX h h2 := ⟨x.1.tr b, fun c j hc z1 z2 => (e c j hc z1 z2).trans (x.2 c j hc z1 z2)⟩
theorem RX.fr {h h2 : AH} (x : RX h h2) : Fr 53 7 h h2 := ⟨x.1.1, x.1.2.1, x.1.2.2.1, x.1.2.2.2, fun b hb z i => x.2 b i hb (by omega) (by omega)⟩