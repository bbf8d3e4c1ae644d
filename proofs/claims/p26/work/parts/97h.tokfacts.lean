/-! ===== what tokens say ===== -/
section
variable {tp : Int → Int} {ln p : Int}
theorem di_rg {x : Int} (h : s_di x = true) : 48 ≤ x ∧ x ≤ 57 := of_decide_eq_true h
theorem pw10b : ∀ c : Nat, c < 7 → (10 : Int) ^ c ≤ 1000000 := by decide
theorem nu_nf : ∀ n : Nat, ∀ c : Nat, (ln - (p + (c : Int))).toNat = n → p + (c : Int) ≤ ln → (∀ i : Nat, i < c → 48 ≤ tp (p + (i : Int)) ∧ tp (p + (i : Int)) ≤ 57) → (s_nu tp ln (p + (c : Int)) (nuF (fun i => tp (p + (i : Int))) c)).1 ≤ p + 6 → ∃ e : Nat, c ≤ e ∧ e ≤ 6 ∧ s_nu tp ln (p + (c : Int)) (nuF (fun i => tp (p + (i : Int))) c) = (p + (e : Int), nuF (fun i => tp (p + (i : Int))) e) ∧ (∀ i : Nat, i < e → 48 ≤ tp (p + (i : Int)) ∧ tp (p + (i : Int)) ≤ 57) ∧ p + (e : Int) ≤ ln := by
  intro n
  induction n with
  | zero =>
    intro c hn hl ha h10
    rw [s_nu_eq, if_neg (fun y => by omega)] at h10 ⊢
    exact ⟨c, Nat.le_refl _, by have : p + (c : Int) ≤ p + 6 := h10; omega, rfl, ha, hl⟩
  | succ n ih =>
    intro c hn hl ha h10
    by_cases z : p + (c : Int) < ln ∧ s_di (tp (p + (c : Int))) = true
    · have al := di_rg z.2
      have rg := nuF_rg (f := fun i => tp (p + (i : Int))) (n := c) ha
      rw [s_nu_eq, if_pos z] at h10 ⊢
      have bd := (s_nu_bd (tp := tp) (ln := ln) _ (p + (c : Int) + 1) (w64 (w64 (w64 (nuF (fun i => tp (p + (i : Int))) c * 10) + tp (p + (c : Int))) - 48)) rfl (by omega)).1
      have hc : c < 6 := by omega
      have pw := pw10b c (by omega)
      have e1 : w64 (nuF (fun i => tp (p + (i : Int))) c * 10) = nuF (fun i => tp (p + (i : Int))) c * 10 := w64_id (by omega) (by omega)
      have e2 : w64 (w64 (w64 (nuF (fun i => tp (p + (i : Int))) c * 10) + tp (p + (c : Int))) - 48) = nuF (fun i => tp (p + (i : Int))) (c + 1) := by
        rw [e1, w64_id (x := nuF (fun i => tp (p + (i : Int))) c * 10 + tp (p + (c : Int))) (by omega) (by omega), w64_id (by omega) (by omega)]
        show _ = nuF (fun i => tp (p + (i : Int))) c * 10 + (tp (p + (c : Int)) - 48)
        omega
      have e3 : p + (c : Int) + 1 = p + ((c + 1 : Nat) : Int) := by omega
      rw [e2, e3] at h10 ⊢
      have ha' : ∀ i : Nat, i < c + 1 → 48 ≤ tp (p + (i : Int)) ∧ tp (p + (i : Int)) ≤ 57 := fun i hi => by
        by_cases y : i = c
        · rw [y]
          exact al
        · exact ha i (by omega)
      obtain ⟨e, q1, q2, q3, q4, q5⟩ := ih (c + 1) (by omega) (by omega) ha' h10
      exact ⟨e, by omega, q2, q3, q4, q5⟩
    · rw [s_nu_eq, if_neg z] at h10 ⊢
      exact ⟨c, Nat.le_refl _, by have : p + (c : Int) ≤ p + 6 := h10; omega, rfl, ha, hl⟩
/-- a name -/
theorem one_name (hr : 0 ≤ tp p ∧ tp p < 256) (hp : p < ln) (h : (s_one tp ln p).1 = 256) : ∃ e : Nat, e ≤ 10 ∧ (s_one tp ln p).2.1 = p + (e : Int) ∧ (s_one tp ln p).2.2 = some (cwF (fun i => tp (p + (i : Int))) e) ∧ (∀ i : Nat, i < e → alnum (tp (p + (i : Int)))) ∧ p + (e : Int) ≤ ln := by
  unfold s_one at h ⊢
  by_cases z : s_le (tp p) = true
  · rw [if_pos z] at h ⊢
    by_cases z2 : 10 < (s_wd tp ln p 0).1 - p
    · rw [if_pos z2] at h
      exact absurd h (show ¬ (261 : Int) = 256 by decide)
    · rw [if_neg z2]
      have wc := wd_cw (tp := tp) (ln := ln) (p := p) _ 0 rfl (by omega) (fun i hi => absurd hi (Nat.not_lt_zero i)) (show (0 : Int) < (37 : Int) ^ 0 by decide)
      rw [show p + ((0 : Nat) : Int) = p by omega] at wc
      obtain ⟨e, q1, q2, q3, q4, q5⟩ := wc (show (s_wd tp ln p 0).1 ≤ p + 10 by omega)
      have q3' : s_wd tp ln p 0 = (p + (e : Int), cwF (fun i => tp (p + (i : Int))) e) := q3
      rw [q3']
      exact ⟨e, q2, rfl, rfl, q4, q5⟩
  · rw [if_neg z] at h
    by_cases z2 : s_di (tp p) = true
    · rw [if_pos z2] at h
      have h' : (if 6 < (s_nu tp ln p 0).1 - p then (261 : Int) else 257) = 256 := h
      split at h' <;> omega
    · rw [if_neg z2] at h
      have h' : (s_sm tp ln p).1 = 256 := h
      unfold s_sm at h'
      split at h'
      · exact absurd h' (show ¬ (261 : Int) = 256 by decide)
      · split at h'
        · have h2 : (if tp p = 60 then (258 : Int) else 259) = 256 := h'
          split at h2 <;> omega
        · have h2 : tp p = 256 := h'
          omega
/-- a number -/
theorem one_num (hr : 0 ≤ tp p ∧ tp p < 256) (hp : p < ln) (h : (s_one tp ln p).1 = 257) : ∃ e : Nat, e ≤ 6 ∧ (s_one tp ln p).2.1 = p + (e : Int) ∧ (s_one tp ln p).2.2 = some (nuF (fun i => tp (p + (i : Int))) e) ∧ (∀ i : Nat, i < e → 48 ≤ tp (p + (i : Int)) ∧ tp (p + (i : Int)) ≤ 57) ∧ p + (e : Int) ≤ ln := by
  unfold s_one at h ⊢
  by_cases z : s_le (tp p) = true
  · rw [if_pos z] at h
    by_cases z2 : 10 < (s_wd tp ln p 0).1 - p
    · rw [if_pos z2] at h
      exact absurd h (show ¬ (261 : Int) = 257 by decide)
    · rw [if_neg z2] at h
      have h' : s_ky (s_wd tp ln p 0).2 22 0 = 257 := h
      have := s_ky_rg (x := (s_wd tp ln p 0).2) 22 0 rfl
      have e : s_ky (s_wd tp ln p 0).2 22 ((0 : Nat) : Int) = s_ky (s_wd tp ln p 0).2 22 0 := rfl
      rw [e] at this
      omega
  · rw [if_neg z] at h ⊢
    by_cases z2 : s_di (tp p) = true
    · rw [if_pos z2] at h ⊢
      have h' : (if 6 < (s_nu tp ln p 0).1 - p then (261 : Int) else 257) = 257 := h
      have z3 : ¬ 6 < (s_nu tp ln p 0).1 - p := fun y => by
        rw [if_pos y] at h'
        omega
      have wc := nu_nf (tp := tp) (ln := ln) (p := p) _ 0 rfl (by omega) (fun i hi => absurd hi (Nat.not_lt_zero i))
      rw [show p + ((0 : Nat) : Int) = p by omega] at wc
      obtain ⟨e, q1, q2, q3, q4, q5⟩ := wc (show (s_nu tp ln p 0).1 ≤ p + 6 by omega)
      have q3' : s_nu tp ln p 0 = (p + (e : Int), nuF (fun i => tp (p + (i : Int))) e) := q3
      rw [q3']
      exact ⟨e, q2, rfl, rfl, q4, q5⟩
    · rw [if_neg z2] at h
      have h' : (s_sm tp ln p).1 = 257 := h
      unfold s_sm at h'
      split at h'
      · exact absurd h' (show ¬ (261 : Int) = 257 by decide)
      · split at h'
        · have h2 : (if tp p = 60 then (258 : Int) else 259) = 257 := h'
          split at h2 <;> omega
        · have h2 : tp p = 257 := h'
          omega
end
section
variable {tp : Int → Int} {ln : Int} {N : Nat}
theorem st_rg (hl : 0 ≤ ln) (en : s_en tp ln N) : ∀ j : Nat, j ≤ N → 0 ≤ s_st tp ln j ∧ s_st tp ln j ≤ ln
  | 0, _ => s_sk_bd (tp := tp) (ln := ln) _ 0 rfl hl
  | j + 1, h => by
    have a := st_rg hl en j (by omega)
    have ne := en.2.2 j (by omega)
    have lt : s_st tp ln j < ln := by
      by_cases y : s_st tp ln j < ln
      · exact y
      · exact absurd (if_neg y) ne.1
    have b := s_one_bd (tp := tp) lt
    have c := s_sk_bd (tp := tp) (ln := ln) _ (s_one tp ln (s_st tp ln j)).2.1 rfl b.2.1
    have e : s_st tp ln (j + 1) = s_sk tp ln (s_one tp ln (s_st tp ln j)).2.1 := rfl
    rw [e]
    omega
/-- how long a token is -/
def s_mz (tp : Int → Int) (ln : Int) (j : Nat) : Nat := ((s_one tp ln (s_st tp ln j)).2.1 - s_st tp ln j).toNat
theorem kd_one {j : Nat} (h : s_kd tp ln j ≠ 260) (h2 : s_kd tp ln j ≠ 261) : s_st tp ln j < ln ∧ j ≠ 400 ∧ s_kd tp ln j = (s_one tp ln (s_st tp ln j)).1 ∧ s_va tp ln j = (s_one tp ln (s_st tp ln j)).2.2.getD 0 := by
  have lt : s_st tp ln j < ln := by
    by_cases y : s_st tp ln j < ln
    · exact y
    · exact absurd (if_neg y) h
  have n4 : j ≠ 400 := fun y => h2 (by unfold s_kd; rw [if_pos lt, if_pos y])
  refine ⟨lt, n4, ?_, ?_⟩
  · unfold s_kd
    rw [if_pos lt, if_neg n4]
  · unfold s_va
    rw [if_pos lt, if_neg n4]
theorem tok_name (hr : ∀ i, 0 ≤ i → i < ln → 0 ≤ tp i ∧ tp i < 256) (hl : 0 ≤ ln) (en : s_en tp ln N) {j : Nat} (hj : j ≤ N) (h : s_kd tp ln j = 256) : s_mz tp ln j ≤ 10 ∧ s_st tp ln j + (s_mz tp ln j : Int) ≤ ln ∧ (s_one tp ln (s_st tp ln j)).2.1 = s_st tp ln j + (s_mz tp ln j : Int) ∧ s_va tp ln j = cwF (fun i => tp (s_st tp ln j + (i : Int))) (s_mz tp ln j) ∧ ∀ i : Nat, i < s_mz tp ln j → alnum (tp (s_st tp ln j + (i : Int))) := by
  obtain ⟨a, b, c, d⟩ := kd_one (tp := tp) (ln := ln) (j := j) (by rw [h]; decide) (by rw [h]; decide)
  obtain ⟨e, q1, q2, q3, q4, q5⟩ := one_name (hr _ (st_rg hl en j hj).1 a) a (c.symm.trans h)
  have em : s_mz tp ln j = e := by
    unfold s_mz
    rw [q2]
    omega
  rw [em, d, q3]
  exact ⟨q1, q5, q2, rfl, q4⟩
theorem tok_num (hr : ∀ i, 0 ≤ i → i < ln → 0 ≤ tp i ∧ tp i < 256) (hl : 0 ≤ ln) (en : s_en tp ln N) {j : Nat} (hj : j ≤ N) (h : s_kd tp ln j = 257) : s_mz tp ln j ≤ 6 ∧ s_st tp ln j + (s_mz tp ln j : Int) ≤ ln ∧ (s_one tp ln (s_st tp ln j)).2.1 = s_st tp ln j + (s_mz tp ln j : Int) ∧ s_va tp ln j = nuF (fun i => tp (s_st tp ln j + (i : Int))) (s_mz tp ln j) ∧ (∀ i : Nat, i < s_mz tp ln j → 48 ≤ tp (s_st tp ln j + (i : Int)) ∧ tp (s_st tp ln j + (i : Int)) ≤ 57) ∧ 0 ≤ s_va tp ln j ∧ s_va tp ln j ≤ 999999 := by
  obtain ⟨a, b, c, d⟩ := kd_one (tp := tp) (ln := ln) (j := j) (by rw [h]; decide) (by rw [h]; decide)
  obtain ⟨e, q1, q2, q3, q4, q5⟩ := one_num (hr _ (st_rg hl en j hj).1 a) a (c.symm.trans h)
  have em : s_mz tp ln j = e := by
    unfold s_mz
    rw [q2]
    omega
  have rg := nuF_rg (f := fun i => tp (s_st tp ln j + (i : Int))) (n := e) q4
  have pw := pw10b e (by omega)
  rw [em, d, q3]
  refine ⟨q1, q5, q2, rfl, q4, ?_⟩
  show 0 ≤ nuF (fun i => tp (s_st tp ln j + (i : Int))) e ∧ nuF (fun i => tp (s_st tp ln j + (i : Int))) e ≤ 999999
  omega
/-- the roles of a list over these tokens -/
theorem RFg.rf (hr : ∀ i, 0 ≤ i → i < ln → 0 ≤ tp i ∧ tp i < 256) (hl : 0 ≤ ln) (en : s_en tp ln N) {ro : Nat → Int} {j : Nat} (hj : j ≤ N) (g : RFg (s_kd tp ln) ro j) : RF (s_kd tp ln) ro (s_va tp ln) j := by
  obtain ⟨g0, g5, g6, g7, g9, g10, g11, g12, g13⟩ := g
  refine ⟨g0, g5, g6, g7, g9, g10, g11, g12, fun z => ?_⟩
  have k := g13 z
  exact ⟨k, (tok_num hr hl en hj k).2.2.2.2.2⟩
end
/-! ===== the plan that comes of a list ===== -/
def rsl (f : TT) (o : Op) : Op := (o.1, f 11 o.2.1, f 11 o.2.2)
section
variable {ro va kd : Nat → Int} {f : TT} {E : Nat}
theorem tst_of (fi : FI ro va f E) : ∀ {L : List Op} {t t2 : List Bool}, tu L t t2 → (∀ o ∈ L, AR ro E o) → tst f (L.map (rsl f)) t t2
  | [], _, _, h, _ => h
  | o :: r, t, t2, h, ar => by
    obtain ⟨t1, h1, h2⟩ := h
    obtain ⟨a1, a2, a3, a4, a5, a6⟩ := ar o (List.mem_cons_self ..)
    refine ⟨t1, ?_, tst_of fi h2 (fun o ho => ar o (List.mem_cons_of_mem _ ho))⟩
    have m12 : ∀ x : Int, 0 ≤ x → x < (E : Int) → ro x.toNat = 12 → 0 ≤ f 11 x ∧ f 11 x < f 1 0 := fun x x0 x1 xr => by
      have := fi.m12 x.toNat (by omega) xr
      rw [show ((x.toNat : Nat) : Int) = x by omega] at this
      exact this
    have m13 : ∀ x : Int, 0 ≤ x → x < (E : Int) → ro x.toNat = 13 → 0 ≤ f 11 x ∧ f 11 x < f 2 0 := fun x x0 x1 xr => by
      have := fi.m13 x.toNat (by omega) xr
      rw [show ((x.toNat : Nat) : Int) = x by omega] at this
      exact this
    unfold tst1
    unfold tu1 at h1
    show (o.1 = 1 ∧ _) ∨ (o.1 = 2 ∧ _) ∨ (o.1 = 3 ∧ _) ∨ ((o.1 = 4 ∨ o.1 = 5) ∧ (0 ≤ f 11 o.2.1 ∧ f 11 o.2.1 < f 1 0) ∧ _) ∨ ((o.1 = 6 ∨ o.1 = 7) ∧ (0 ≤ f 11 o.2.1 ∧ f 11 o.2.1 < f 2 0) ∧ _) ∨ (o.1 = 8 ∧ (0 ≤ f 11 o.2.1 ∧ f 11 o.2.1 < f 1 0) ∧ _) ∨ (o.1 = 11 ∧ (0 ≤ f 11 o.2.1 ∧ f 11 o.2.1 < f 2 0) ∧ (0 ≤ f 11 o.2.2 ∧ f 11 o.2.2 < f 1 0) ∧ _) ∨ (o.1 = 9 ∧ _) ∨ (o.1 = 10 ∧ _) ∨ ((12 ≤ o.1 ∧ o.1 ≤ 17) ∧ _) ∨ ((18 ≤ o.1 ∧ o.1 ≤ 22) ∧ _) ∨ ((23 ≤ o.1 ∧ o.1 ≤ 24) ∧ _)
    rcases h1 with ⟨e, et⟩ | ⟨e, et⟩ | ⟨e, et⟩ | ⟨e, et⟩ | ⟨e, et⟩ | ⟨e, et⟩ | ⟨e, et⟩
    · by_cases y1 : o.1 = 1
      · exact Or.inl ⟨y1, et⟩
      by_cases y2 : o.1 = 2
      · exact Or.inr (Or.inl ⟨y2, et⟩)
      by_cases y3 : o.1 = 3
      · exact Or.inr (Or.inr (Or.inl ⟨y3, et⟩))
      by_cases y4 : o.1 = 4 ∨ o.1 = 5
      · have k := a4 (by omega)
        exact Or.inr (Or.inr (Or.inr (Or.inl ⟨y4, m12 _ a1.1 k.2 k.1, et⟩)))
      · have k := a5 (by omega)
        exact Or.inr (Or.inr (Or.inr (Or.inr (Or.inl ⟨by omega, m13 _ a1.1 k.2 k.1, et⟩))))
    · by_cases y8 : o.1 = 8
      · have k := a4 (by omega)
        exact Or.inr (Or.inr (Or.inr (Or.inr (Or.inr (Or.inl ⟨y8, m12 _ a1.1 k.2 k.1, et⟩)))))
      · have k := a6 (by omega)
        exact Or.inr (Or.inr (Or.inr (Or.inr (Or.inr (Or.inr (Or.inl ⟨by omega, m13 _ a1.1 k.1.2 k.1.1, m12 _ a2.1 k.2.2 k.2.1, et⟩))))))
    · exact Or.inr (Or.inr (Or.inr (Or.inr (Or.inr (Or.inr (Or.inr (Or.inl ⟨e, et⟩)))))))
    · exact Or.inr (Or.inr (Or.inr (Or.inr (Or.inr (Or.inr (Or.inr (Or.inr (Or.inl ⟨e, et⟩))))))))
    · exact Or.inr (Or.inr (Or.inr (Or.inr (Or.inr (Or.inr (Or.inr (Or.inr (Or.inr (Or.inl ⟨e, et⟩)))))))))
    · exact Or.inr (Or.inr (Or.inr (Or.inr (Or.inr (Or.inr (Or.inr (Or.inr (Or.inr (Or.inr (Or.inl ⟨e, et⟩))))))))))
    · exact Or.inr (Or.inr (Or.inr (Or.inr (Or.inr (Or.inr (Or.inr (Or.inr (Or.inr (Or.inr (Or.inr ⟨e, et⟩))))))))))
theorem FI.pi (fi : FI ro va f E) (bl : B0 ro E) : PI f := by
  obtain ⟨b1, b2, b3, b4, b5, b6⟩ := bl
  have c1 := fi.c1
  have c2 := fi.c2
  have c3 := fi.c3
  have c4 := fi.c4
  refine ⟨by omega, by omega, by omega, by omega, fun i h0 h1 => ?_, fun i h0 h1 => ?_, fun i h0 h1 => ?_⟩
  · have := fi.r5 i.toNat (by omega)
    rw [show ((i.toNat : Nat) : Int) = i by omega] at this
    exact this
  · have a := fi.r9 i.toNat (by omega)
    have b := fi.r7 i.toNat (by omega)
    rw [show ((i.toNat : Nat) : Int) = i by omega] at a b
    exact ⟨a, b⟩
  · have := fi.r11 i.toNat (by omega)
    rw [show ((i.toNat : Nat) : Int) = i by omega] at this
    exact this
theorem FI.pb (fi : FI ro va f E) (bl : B0 ro E) : PB f := by
  obtain ⟨b1, b2, b3, b4, b5, b6⟩ := bl
  have c2 := fi.c2
  refine ⟨fi.bg, fun p h0 h1 => ?_, fi.z, fi.zz⟩
  have := fi.r6 p.toNat (by omega)
  rw [show ((p.toNat : Nat) : Int) = p by omega] at this
  omega
end
