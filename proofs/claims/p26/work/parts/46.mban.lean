/-! ===== the reference carries out a test ===== -/
def mco (c : Int) : Int := if c = 1 then 32 else if c = 2 then 11 else if c = 3 then 12 else if c = 4 then 3 else if c = 5 then 14 else if c = 6 then 13 else if c = 7 then 16 else if c = 8 then 15 else if c = 9 then 33 else if c = 10 then 17 else if c = 11 then 7 else if c = 12 then 34 else if c = 13 then 35 else if c = 14 then 36 else if c = 15 then 37 else if c = 16 then 20 else if c = 17 then 21 else if c = 18 then 38 else if c = 19 then 39 else if c = 20 then 42 else if c = 21 then 43 else if c = 22 then 44 else if c = 23 then 18 else 19
/-- the code from pos to en spells the operations -/
def spm (h : AH) (q en : Int) : Int → List Op → Prop
  | pos, [] => pos = en ∧ 0 ≤ pos ∧ pos ≤ 800
  | pos, o :: r => am_m h (q + 9) pos = mco o.1 ∧ 0 ≤ pos ∧ (if o.1 = 11 then am_m h (q + 9) (pos + 1) = o.2.1 ∧ am_m h (q + 9) (pos + 2) = o.2.2 ∧ spm h q en (pos + 3) r else if o.1 = 1 ∨ (4 ≤ o.1 ∧ o.1 ≤ 8) then am_m h (q + 9) (pos + 1) = o.2.1 ∧ spm h q en (pos + 2) r else spm h q en (pos + 1) r)
theorem spm_bd {h : AH} {q en : Int} : ∀ {L : List Op} {pos : Int}, spm h q en pos L → 0 ≤ pos ∧ pos ≤ en ∧ en ≤ 800
  | [], pos, x => ⟨x.2.1, by have := x.1; omega, by have := x.1; have := x.2.2; omega⟩
  | o :: r, pos, x => by
    unfold spm at x
    obtain ⟨-, x2, x3⟩ := x
    split at x3
    · have := spm_bd x3.2.2
      omega
    · split at x3
      · have := spm_bd x3.2
        omega
      · have := spm_bd x3
        omega
theorem spm_fr {h h1 : AH} {q en : Int} (e9 : ∀ i, am_m h1 (q + 9) i = am_m h (q + 9) i) : ∀ {L : List Op} {pos : Int}, spm h q en pos L → spm h1 q en pos L
  | [], pos, x => x
  | o :: r, pos, x => by
    unfold spm at x ⊢
    obtain ⟨x1, x2, x3⟩ := x
    refine ⟨(e9 _).trans x1, x2, ?_⟩
    split
    · rename_i hz
      rw [if_pos hz] at x3
      exact ⟨(e9 _).trans x3.1, (e9 _).trans x3.2.1, spm_fr e9 x3.2.2⟩
    · rename_i hz
      rw [if_neg hz] at x3
      split
      · rename_i hz
        rw [if_pos hz] at x3
        exact ⟨(e9 _).trans x3.1, spm_fr e9 x3.2⟩
      · rename_i hz
        rw [if_neg hz] at x3
        exact spm_fr e9 x3
section
variable {d : Nat} {h : AH} {u q s e b pos en co x v w : Int} {pp ss : TT} {K : AK} {st : List Int} {y1 y5 : AV}
/-- what the reference answers of two values -/
def mbo (co l r : Int) : Int := if co < 18 then rv co l r else if co < 23 then cv co l r else if co = 23 then am_and l r else am_or l r
end
theorem mbo_eq {co l r : Int} (hc : 12 ≤ co ∧ co ≤ 24) (hl : 23 ≤ co → (l = 0 ∨ l = 1) ∧ (r = 0 ∨ r = 1)) : mbo co l r = if co < 18 then rv co l r else cv co l r := by
  unfold mbo
  split
  · rfl
  · split
    · rfl
    · obtain ⟨z1, z2⟩ := hl (by omega)
      rcases (show co = 23 ∨ co = 24 by omega) with rfl | rfl
      · rcases z1 with rfl | rfl <;> rcases z2 with rfl | rfl <;> decide
      · rcases z1 with rfl | rfl <;> rcases z2 with rfl | rfl <;> decide
