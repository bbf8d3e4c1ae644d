/-! ===== the reference's teach: what is wanted for it ===== -/
theorem c172 {D : Nat} {h1 h : AH} {q : Int} {kd va : Nat → Int} {N : Nat} {K : AK} (hD : 53 ≤ D) (x : XR h1 h1 q kd va N h 0 [] []) (k : PR2 h1 q kd va N [] [] K (gAll kd 400 0)) : am_call D 172 [(2, 53)] h K := by
  obtain ⟨d, rfl⟩ : ∃ d, D = d + 1 := ⟨D - 1, by omega⟩
  exact c172_0 (y1 := (9, 0)) (by omega) 400 0 rfl (Nat.le_refl _) x k
theorem M9.cg {h h2 : AH} {q s e : Int} (x : M9 h 53 q s e) (b : BS h h2) (ee : ∀ i, (i = 1 ∨ (5 ≤ i ∧ i ≤ 9) ∨ i = 12 ∨ i = 14 ∨ i = 15) → am_m h2 53 i = am_m h 53 i) : M9 h2 53 q s e := by
  have hb := x.b
  have bn := b.1
  have tt : ∀ c, c < 60 → am_t h2 c = am_t h c ∧ am_l h2 c = am_l h c := fun c hc => b.2.2.2 c (by omega)
  exact ⟨(tt 53 (by decide)).1.trans x.t, (ee 12 (by decide)).trans x.f12, (ee 14 (by decide)).trans x.f14, (ee 15 (by decide)).trans x.f15, (ee 1 (by decide)).trans x.f1, (tt (53 + 1) (by decide)).1.trans x.t1, (tt (53 + 1) (by decide)).2.trans x.l1, (ee 5 (by decide)).trans x.f5, (tt (53 + 2) (by decide)).1.trans x.t2, (tt (53 + 2) (by decide)).2.trans x.l2, (ee 6 (by decide)).trans x.f6, (tt (53 + 3) (by decide)).1.trans x.t3, (tt (53 + 3) (by decide)).2.trans x.l3, (ee 7 (by decide)).trans x.f7, (tt (53 + 4) (by decide)).1.trans x.t4, (tt (53 + 4) (by decide)).2.trans x.l4, (ee 8 (by decide)).trans x.f8, (tt (53 + 5) (by decide)).1.trans x.t5, (tt (53 + 5) (by decide)).2.trans x.l5, (ee 9 (by decide)).trans x.f9, (tt (53 + 6) (by decide)).1.trans x.t6, (tt (53 + 6) (by decide)).2.trans x.l6, x.p, by omega⟩
theorem P7.cg {h h2 : AH} {q : Int} (x : P7 h q) (b : BS h h2) (ee : ∀ i, (i = 1 ∨ i = 3 ∨ i = 4 ∨ i = 5 ∨ i = 7 ∨ (11 ≤ i ∧ i ≤ 14) ∨ i = 16) → am_m h2 q i = am_m h q i) : P7 h2 q := by
  have hb := x.b
  have bn := b.1
  have tt : ∀ c, c ≤ q + 10 → am_t h2 c = am_t h c ∧ am_l h2 c = am_l h c := fun c hc => b.2.2.2 c (by omega)
  exact ⟨(tt q (by omega)).1.trans x.t, (ee 1 (by decide)).trans x.f1, (tt (q + 1) (by omega)).1.trans x.t1, (tt (q + 1) (by omega)).2.trans x.l1, (ee 3 (by decide)).trans x.f3, (tt (q + 2) (by omega)).1.trans x.t2, (tt (q + 2) (by omega)).2.trans x.l2, (ee 4 (by decide)).trans x.f4, (tt (q + 3) (by omega)).1.trans x.t3, (tt (q + 3) (by omega)).2.trans x.l3, (ee 5 (by decide)).trans x.f5, (tt (q + 4) (by omega)).1.trans x.t4, (tt (q + 4) (by omega)).2.trans x.l4, (ee 7 (by decide)).trans x.f7, (tt (q + 5) (by omega)).1.trans x.t5, (tt (q + 5) (by omega)).2.trans x.l5, (ee 11 (by decide)).trans x.f11, (tt (q + 6) (by omega)).1.trans x.t6, (tt (q + 6) (by omega)).2.trans x.l6, (ee 12 (by decide)).trans x.f12, (tt (q + 7) (by omega)).1.trans x.t7, (tt (q + 7) (by omega)).2.trans x.l7, (ee 13 (by decide)).trans x.f13, (tt (q + 8) (by omega)).1.trans x.t8, (tt (q + 8) (by omega)).2.trans x.l8, (ee 14 (by decide)).trans x.f14, (tt (q + 9) (by omega)).1.trans x.t9, (tt (q + 9) (by omega)).2.trans x.l9, (ee 16 (by decide)).trans x.f16, (tt (q + 10) (by omega)).1.trans x.t10, (tt (q + 10) (by omega)).2.trans x.l10, x.p, by omega⟩
theorem gq_of {h4 h : AH} {pp ss : TT} {tt : Int → List Op} {tp : Int → Int} {tl er q a : Int} {N E : Nat} {ro : Nat → Int} (g : GM h4 pp ss tt tl tp er q) (rn : RN h4 tp tl (N + 1)) (en : s_en tp tl N) (hr : ∀ i, 0 ≤ i → i < tl → 0 ≤ tp i ∧ tp i < 256) (bs : ∀ b, b < 60 → am_t h b = am_t h4 b ∧ am_l h b = am_l h4 b) (e53 : ∀ j, (j = 1 ∨ (6 ≤ j ∧ j ≤ 9)) → am_m h 53 j = am_m h4 53 j) (eb : ∀ b i, (b = 54 ∨ b = 56 ∨ b = 57) → am_m h b i = am_m h4 b i) (e13 : am_m h 53 13 = a) (p : P7 h a) (ab : 88 ≤ a) (hE : E ≤ N) (e58 : ∀ k : Nat, k < E → am_m h 58 (k : Int) = mr (ro k)) : GQ h a tp tl (s_kd tp tl) ro (s_va tp tl) (s_st tp tl) (s_mz tp tl) E := by
  have tb := g.tb
  have M := g.c.M
  have hN := en.1
  have e57 : ∀ k : Nat, k < E → s_kd tp tl k ≠ 260 → s_kd tp tl k ≠ 261 → (s_one tp tl (s_st tp tl k)).2.1 = s_st tp tl k + (s_mz tp tl k : Int) → am_m h 57 (k : Int) = (s_mz tp tl k : Int) := fun k hk z1 z2 e => by
    rw [eb 57 _ (by omega)]
    have := (rn k (by omega)).2.2.2.2 z1 z2
    omega
  refine ⟨(bs 53 (by decide)).1.trans M.t, (e53 1 (by decide)).trans M.f1, (bs 54 (by decide)).1.trans M.t1, (bs 54 (by decide)).2.trans M.l1, (e53 6 (by decide)).trans M.f6, (bs 56 (by decide)).1.trans M.t3, (bs 56 (by decide)).2.trans M.l3, (e53 7 (by decide)).trans M.f7, (bs 57 (by decide)).1.trans M.t4, (bs 57 (by decide)).2.trans M.l4, (e53 8 (by decide)).trans M.f8, (bs 58 (by decide)).1.trans M.t5, (bs 58 (by decide)).2.trans M.l5, (e53 9 (by decide)).trans M.f9, (bs 59 (by decide)).1.trans M.t6, (bs 59 (by decide)).2.trans M.l6, e13, p, ab, by omega, tb, fun i h0 h1 => (eb 54 _ (by omega)).trans (g.tm i h0 h1), e58, fun k hk => ⟨(eb 56 _ (by omega)).trans (rn k (by omega)).2.1, (st_rg tb.1 en k (by omega)).1⟩, fun k hk z => ?_, fun k hk z => ?_, fun k hk z => ?_⟩
  · rcases z with z | z
    · have := tok_name hr tb.1 en (show k ≤ N by omega) z
      exact ⟨e57 k hk (by rw [z]; decide) (by rw [z]; decide) this.2.2.1, this.1, this.2.1⟩
    · have := tok_num hr tb.1 en (show k ≤ N by omega) z
      exact ⟨e57 k hk (by rw [z]; decide) (by rw [z]; decide) this.2.2.1, by omega, this.2.1⟩
  · have := tok_name hr tb.1 en (show k ≤ N by omega) z
    exact ⟨this.2.2.2.1, this.2.2.2.2⟩
  · have := tok_num hr tb.1 en (show k ≤ N by omega) z
    exact ⟨this.2.2.2.1, this.1, this.2.2.2.2.1⟩
/-- what stands where names' numbers go: tokens -/
theorem mos_val {ro va : Nat → Int} {E : Nat} {g : Int → Int} : ∀ {L : List Op} {s i : Int}, RW g s (mcs va L) → (∀ o ∈ L, AR ro E o) → i ∈ mos va s L → 0 ≤ g i ∧ g i < (E : Int)
  | [], s, i, _, _, h => by cases h
  | o :: r, s, i, x, ar, h => by
    have x' : RW g s (mc va o ++ mcs va r) := x
    have h' : i ∈ mo s o ++ mos va (s + ((mc va o).length : Int)) r := h
    rw [RW.app] at x'
    obtain ⟨a1, a2, a3, a4, a5, a6⟩ := ar o (List.mem_cons_self ..)
    rcases List.mem_append.1 h' with y | y
    · unfold mo at y
      by_cases z : o.1 = 11
      · rw [if_pos z] at y
        have ec : mc va o = [7, o.2.1, o.2.2] := if_pos z
        rw [ec] at x'
        obtain ⟨⟨x1, x2, x3, -⟩, -⟩ := x'
        have x3' : g (s + 1 + 1) = o.2.2 := x3
        rw [show s + 1 + 1 = s + 2 by omega] at x3'
        obtain ⟨b1, b2⟩ := a6 z
        rcases List.mem_cons.1 y with y | y
        · rw [y, x2]
          exact ⟨a1.1, b1.2⟩
        · rw [List.mem_singleton.1 y, x3']
          exact ⟨a2.1, b2.2⟩
      · rw [if_neg z] at y
        by_cases z2 : 4 ≤ o.1 ∧ o.1 ≤ 8
        · rw [if_pos z2] at y
          have ec : mc va o = [mco o.1, o.2.1] := by
            unfold mc
            rw [if_neg z, if_neg (by omega), if_pos z2]
          rw [ec] at x'
          obtain ⟨⟨x1, x2, -⟩, -⟩ := x'
          rw [List.mem_singleton.1 y, x2]
          by_cases z6 : o.1 = 6 ∨ o.1 = 7
          · exact ⟨a1.1, (a5 z6).2⟩
          · exact ⟨a1.1, (a4 (by omega)).2⟩
        · rw [if_neg z2] at y
          cases y
    · exact mos_val x'.2 (fun o ho => ar o (List.mem_cons_of_mem _ ho)) y
theorem bos_mem {L : List (Nat × List Op)} {o : Op} (h : o ∈ bos L) : ∃ b ∈ L, o ∈ b.2 := by
  induction L with
  | nil => cases h
  | cons b r ih =>
    have h' : o ∈ b.2 ++ bos r := h
    rcases List.mem_append.1 h' with y | y
    · exact ⟨b, List.mem_cons_self .., y⟩
    · obtain ⟨b2, h2, h3⟩ := ih y
      exact ⟨b2, List.mem_cons_of_mem _ h2, h3⟩
section
variable {h0 h1 h2 : AH} {q : Int} {ro va kd : Nat → Int} {E : Nat} {f : TT}
theorem MK.plan (x : MK h0 q ro h1 E f) (fi : FI ro va f E) (bl : B0 ro E) (hq : 88 ≤ q) (p : P7 h0 q) (bs : BS h1 h2) (ee : ∀ b i, b ≠ q + 9 → am_m h2 b i = am_m h1 b i) : MP h2 q f ∧ MB h2 q f := by
  obtain ⟨b1, b2, b3, b4, b5, b6⟩ := bl
  have c1 := fi.c1
  have c2 := fi.c2
  have c3 := fi.c3
  have c4 := fi.c4
  have hb := p.b
  have p1 : P7 h1 q := p.cg x.fn.1 (fun i hi => x.fn.2 q i (by omega) (by omega) (by omega) (by omega) (by omega))
  have p2 : P7 h2 q := p1.cg bs (fun i hi => ee q i (by omega))
  have rd : ∀ as off b, RD2 as off b → ∀ i, 0 ≤ i → i < (cn ro as E : Int) → am_m h2 (q + off) i = f b i := fun as off b hr i h0 h1 => by
    have a := x.rd as off b hr i.toNat (by omega)
    rw [show ((i.toNat : Nat) : Int) = i by omega] at a
    exact (ee _ _ (by unfold RD2 at hr; omega)).trans a
  have cs : ∀ as c, NC2 as c → am_m h2 q c = (cn ro as E : Int) := fun as c hc => (ee _ _ (by omega)).trans (x.cs as c hc)
  refine ⟨⟨p2, (cs 1 0 (by unfold NC2; omega)).trans c1.1.symm, (cs 2 2 (by unfold NC2; omega)).trans c2.1.symm, (cs 3 6 (by unfold NC2; omega)).trans c3.1.symm, (cs 4 9 (by unfold NC2; omega)).trans c4.1.symm, fun i h0 h1 => rd 5 1 4 (by unfold RD2; omega) i h0 (by omega), fun i h0 h1 => ⟨rd 9 3 5 (by unfold RD2; omega) i h0 (by omega), rd 7 4 6 (by unfold RD2; omega) i h0 (by omega)⟩, fun i h0 h1 => rd 11 6 7 (by unfold RD2; omega) i h0 (by omega)⟩, fun i h0 h1 => rd 6 2 9 (by unfold RD2; omega) i h0 (by omega), fun v h0 h1 => ?_⟩
  have fn := x.lk v.toNat (by omega)
  rw [show ((v.toNat : Nat) : Int) = v by omega] at fn
  rw [ee _ _ (by omega)]
  exact fn
end
/-- what the reference's teach may have changed, the new plan apart -/
def RX (h h2 : AH) : Prop := BS h h2 ∧ ∀ b i, b < am_n h → ¬ (b = 53 ∧ (i = 0 ∨ i = 2 ∨ i = 3 ∨ i = 10 ∨ i = 11 ∨ i = 13)) → ¬ (55 ≤ b ∧ b ≤ 59) → am_m h2 b i = am_m h b i
theorem RX.rf {h : AH} : RX h h := ⟨⟨Int.le_refl _, rfl, fun _ => rfl, fun _ _ => ⟨rfl, rfl⟩⟩, fun _ _ _ _ _ => rfl⟩
theorem RX.w {h h1 : AH} {b i v : Int} (x : RX h h1) (z : (b = 53 ∧ (i = 0 ∨ i = 2 ∨ i = 3 ∨ i = 10 ∨ i = 11 ∨ i = 13)) ∨ (55 ≤ b ∧ b ≤ 59)) : RX h (am_w h1 b i v) := ⟨x.1, fun c j hc z1 z2 => by rw [am_m_w, if_neg (by omega)]; exact x.2 c j hc z1 z2⟩
/-- a step behind which nothing of the old heap changed but those places -/
theorem RX.st {h h1 h2 : AH} (x : RX h h1) (b : BS h1 h2) (e : ∀ c j, c < am_n h → ¬ (c = 53 ∧ (j = 0 ∨ j = 2 ∨ j = 3 ∨ j = 10 ∨ j = 11 ∨ j = 13)) → ¬ (55 ≤ c ∧ c ≤ 59) → am_m h2 c j = am_m h1 c j) : RX h h2 := ⟨x.1.tr b, fun c j hc z1 z2 => (e c j hc z1 z2).trans (x.2 c j hc z1 z2)⟩
theorem RX.fr {h h2 : AH} (x : RX h h2) : Fr 53 7 h h2 := ⟨x.1.1, x.1.2.1, x.1.2.2.1, x.1.2.2.2, fun b hb z i => x.2 b i hb (by omega) (by omega)⟩
theorem GM.keep {h h2 : AH} {pp ss : TT} {tt : Int → List Op} {tp : Int → Int} {tl er q e2 : Int} (g : GM h pp ss tt tl tp er q) (x : RX h h2) (e0 : am_m h2 53 2 = 0) (e3 : am_m h2 53 3 = e2) : GM h2 pp ss tt 0 tp e2 q := by
  have hn := g.n
  have hq := g.qd
  have m : M9 h2 53 q 71 79 := g.c.M.cg x.1 (fun i hi => x.2 53 i (by omega) (by omega) (by omega))
  have f := x.fr
  have hf := f.1
  obtain ⟨x1, x2, x3, x4, x5, x6, x7, x8⟩ := g.c
  exact ⟨⟨m, x2.fr f (by omega), x3.fr f (by omega), x4.fr x2 f (by omega), x5, x6, (x.2 53 4 (by omega) (by omega) (by omega)).trans x7, x8⟩, (f.2.2.2.2 71 (by omega) (by omega) 9).trans g.lo, g.ct.fr g.c.Q f (by omega), g.ah.fr f (by omega), e0, e3, hq, g.hb, g.sb, ⟨Int.le_refl _, by decide⟩, by omega, fun i h0 h1 => absurd h1 (by omega)⟩
