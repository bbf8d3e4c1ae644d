/-! ===== words: the same by their bytes as by their codes ===== -/
def cwF (f : Nat → Int) : Nat → Int
  | 0 => 0
  | n + 1 => cwF f n * 37 + s_dg37 (f n)
def alnum (x : Int) : Prop := (97 ≤ x ∧ x ≤ 122) ∨ (48 ≤ x ∧ x ≤ 57)
theorem dg37_rg {x : Int} (h : alnum x) : 1 ≤ s_dg37 x ∧ s_dg37 x ≤ 36 := by
  unfold s_dg37
  unfold alnum at h
  split <;> omega
theorem dg37_inj {x y : Int} (hx : alnum x) (hy : alnum y) (e : s_dg37 x = s_dg37 y) : x = y := by
  unfold s_dg37 at e
  unfold alnum at hx hy
  split at e <;> split at e <;> omega
theorem cwF_nn {f : Nat → Int} : ∀ {n : Nat}, (∀ i, i < n → alnum (f i)) → 0 ≤ cwF f n
  | 0, _ => Int.le_refl _
  | n + 1, h => by
    have a := cwF_nn (n := n) (fun i hi => h i (by omega))
    have b := dg37_rg (h n (by omega))
    show 0 ≤ cwF f n * 37 + s_dg37 (f n)
    omega
theorem cwF_inj {f g : Nat → Int} : ∀ {n m : Nat}, (∀ i, i < n → alnum (f i)) → (∀ i, i < m → alnum (g i)) → cwF f n = cwF g m → n = m ∧ ∀ i, i < n → f i = g i
  | 0, 0, _, _, _ => ⟨rfl, fun i hi => absurd hi (Nat.not_lt_zero i)⟩
  | 0, m + 1, _, hg, e => by
    have a := cwF_nn (f := g) (n := m) (fun i hi => hg i (by omega))
    have b := dg37_rg (hg m (by omega))
    have e' : 0 = cwF g m * 37 + s_dg37 (g m) := e
    omega
  | n + 1, 0, hf, _, e => by
    have a := cwF_nn (f := f) (n := n) (fun i hi => hf i (by omega))
    have b := dg37_rg (hf n (by omega))
    have e' : cwF f n * 37 + s_dg37 (f n) = 0 := e
    omega
  | n + 1, m + 1, hf, hg, e => by
    have b := dg37_rg (hf n (by omega))
    have c := dg37_rg (hg m (by omega))
    have e' : cwF f n * 37 + s_dg37 (f n) = cwF g m * 37 + s_dg37 (g m) := e
    have e1 : cwF f n = cwF g m := by omega
    have e2 : s_dg37 (f n) = s_dg37 (g m) := by omega
    obtain ⟨h1, h2⟩ := cwF_inj (fun i hi => hf i (by omega)) (fun i hi => hg i (by omega)) e1
    subst h1
    refine ⟨rfl, fun i hi => ?_⟩
    by_cases z : i = n
    · rw [z]
      exact dg37_inj (hf n (by omega)) (hg n (by omega)) e2
    · exact h2 i (by omega)
theorem cwF_cg {f g : Nat → Int} : ∀ {n : Nat}, (∀ i, i < n → f i = g i) → cwF f n = cwF g n
  | 0, _ => rfl
  | n + 1, h => by
    show cwF f n * 37 + s_dg37 (f n) = cwF g n * 37 + s_dg37 (g n)
    rw [cwF_cg (fun i hi => h i (by omega)), h n (by omega)]
theorem pw37 : ∀ c : Nat, c < 10 → (37 : Int) ^ c ≤ 129961739795077 := by decide
theorem w64_id {x : Int} (h1 : -9223372036854775808 ≤ x) (h2 : x < 9223372036854775808) : w64 x = x := by
  unfold w64
  rw [Int.bmod_eq_of_le] <;> omega
section
variable {tp : Int → Int} {ln p : Int}
theorem le_alnum {x : Int} (h : s_le x = true ∨ s_di x = true) : alnum x := by
  unfold s_le s_di at h
  unfold alnum
  rcases h with h | h
  · exact Or.inl (of_decide_eq_true h)
  · exact Or.inr (of_decide_eq_true h)
/-- the code of a word, and that it is one -/
theorem wd_cw : ∀ n : Nat, ∀ c : Nat, (ln - (p + (c : Int))).toNat = n → p + (c : Int) ≤ ln → (∀ i : Nat, i < c → alnum (tp (p + (i : Int)))) → cwF (fun i => tp (p + (i : Int))) c < (37 : Int) ^ c → (s_wd tp ln (p + (c : Int)) (cwF (fun i => tp (p + (i : Int))) c)).1 ≤ p + 10 → ∃ e : Nat, c ≤ e ∧ e ≤ 10 ∧ s_wd tp ln (p + (c : Int)) (cwF (fun i => tp (p + (i : Int))) c) = (p + (e : Int), cwF (fun i => tp (p + (i : Int))) e) ∧ (∀ i : Nat, i < e → alnum (tp (p + (i : Int)))) ∧ p + (e : Int) ≤ ln := by
  intro n
  induction n with
  | zero =>
    intro c hn hl ha hb h10
    rw [s_wd_eq, if_neg (fun y => by omega)] at h10 ⊢
    exact ⟨c, Nat.le_refl _, by have : p + (c : Int) ≤ p + 10 := h10; omega, rfl, ha, hl⟩
  | succ n ih =>
    intro c hn hl ha hb h10
    by_cases z : p + (c : Int) < ln ∧ (s_le (tp (p + (c : Int))) = true ∨ s_di (tp (p + (c : Int))) = true)
    · have al := le_alnum z.2
      have rg := dg37_rg al
      have nn := cwF_nn (f := fun i => tp (p + (i : Int))) (n := c) ha
      rw [s_wd_eq, if_pos z] at h10 ⊢
      have bd := (s_wd_bd (tp := tp) (ln := ln) _ (p + (c : Int) + 1) (w64 (w64 (cwF (fun i => tp (p + (i : Int))) c * 37) + s_dg37 (tp (p + (c : Int))))) rfl (by omega)).1
      have hc : c < 10 := by omega
      have pw := pw37 c hc
      have e1 : w64 (cwF (fun i => tp (p + (i : Int))) c * 37) = cwF (fun i => tp (p + (i : Int))) c * 37 := w64_id (by omega) (by omega)
      have e2 : w64 (w64 (cwF (fun i => tp (p + (i : Int))) c * 37) + s_dg37 (tp (p + (c : Int)))) = cwF (fun i => tp (p + (i : Int))) (c + 1) := by
        rw [e1, w64_id (by omega) (by omega)]
        rfl
      have e3 : p + (c : Int) + 1 = p + ((c + 1 : Nat) : Int) := by omega
      rw [e2, e3] at h10 ⊢
      have hb' : cwF (fun i => tp (p + (i : Int))) (c + 1) < (37 : Int) ^ (c + 1) := by
        rw [Int.pow_succ]
        show cwF (fun i => tp (p + (i : Int))) c * 37 + s_dg37 (tp (p + (c : Int))) < _
        omega
      have ha' : ∀ i : Nat, i < c + 1 → alnum (tp (p + (i : Int))) := fun i hi => by
        by_cases y : i = c
        · rw [y]
          exact al
        · exact ha i (by omega)
      obtain ⟨e, q1, q2, q3, q4, q5⟩ := ih (c + 1) (by omega) (by omega) ha' hb' h10
      exact ⟨e, by omega, q2, q3, q4, q5⟩
    · rw [s_wd_eq, if_neg z] at h10 ⊢
      exact ⟨c, Nat.le_refl _, by have : p + (c : Int) ≤ p + 10 := h10; omega, rfl, ha, hl⟩
end
theorem lcmp0 {a b : Int} : am_lcmp a b = 0 ↔ a = b := by
  unfold am_lcmp
  constructor
  · intro h
    split at h
    · omega
    · split at h <;> omega
  · intro h
    subst h
    split
    · omega
    · split <;> omega
/-! the keywords -/
theorem eqf_iff {tp : Int → Int} {j p : Int} : ∀ {n : Nat} {i : Int}, s_eqf tp j p n i = true ↔ ∀ q : Nat, q < n → s_tc j (i + (q : Int)) = tp (p + (i + (q : Int)))
  | 0, i => ⟨fun _ q hq => absurd hq (Nat.not_lt_zero q), fun _ => rfl⟩
  | n + 1, i => by
    show (if s_tc j i = tp (p + i) then s_eqf tp j p n (i + 1) else false) = true ↔ _
    by_cases z : s_tc j i = tp (p + i)
    · rw [if_pos z, eqf_iff (n := n)]
      constructor
      · intro h q hq
        by_cases y : q = 0
        · subst y
          rw [show i + ((0 : Nat) : Int) = i by omega]
          exact z
        · have := h (q - 1) (by omega)
          rw [show i + 1 + ((q - 1 : Nat) : Int) = i + (q : Int) by omega] at this
          exact this
      · intro h q hq
        have := h (q + 1) (by omega)
        rw [show i + ((q + 1 : Nat) : Int) = i + 1 + (q : Int) by omega] at this
        exact this
    · rw [if_neg z]
      constructor
      · intro h
        cases h
      · intro h
        have := h 0 (by omega)
        rw [show i + ((0 : Nat) : Int) = i by omega] at this
        exact absurd this z
/-- kinds: the class's as the reference has them -/
def rk (x : Int) : Int := if x = 256 then 40 else if x = 257 then 41 else if x = 258 then 300 else if x = 259 then 301 else if x = 260 then 900 else if x = 261 then 901 else if 300 ≤ x then x - 300 else 50 + x