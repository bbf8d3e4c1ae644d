/-! ===== the reference: the whole tape cut ===== -/
def KV (x : Int) : Prop := (0 < x ∧ x < 128) ∨ (256 ≤ x ∧ x ≤ 261) ∨ (300 ≤ x ∧ x ≤ 321)
theorem rk_lt {x : Int} (h : KV x) : rk x < 900 ↔ x ≠ 260 ∧ x ≠ 261 := by
  unfold rk
  unfold KV at h
  repeat' split
  all_goals omega
theorem rk_inj {x y : Int} (hx : KV x) (hy : KV y) : rk x = rk y ↔ x = y := by
  constructor
  · intro e
    unfold rk at e
    unfold KV at hx hy
    repeat' split at e
    all_goals omega
  · intro e
    rw [e]
theorem s_ky_rg {x : Int} : ∀ n w : Nat, w + n = 22 → s_ky x n (w : Int) = 256 ∨ (300 ≤ s_ky x n (w : Int) ∧ s_ky x n (w : Int) ≤ 321)
  | 0, w, _ => Or.inl rfl
  | n + 1, w, hw => by
    show (if am_lcmp (s_kw (w : Int)) x = 0 then 300 + (w : Int) else s_ky x n ((w : Int) + 1)) = 256 ∨ (300 ≤ (if am_lcmp (s_kw (w : Int)) x = 0 then 300 + (w : Int) else s_ky x n ((w : Int) + 1)) ∧ (if am_lcmp (s_kw (w : Int)) x = 0 then 300 + (w : Int) else s_ky x n ((w : Int) + 1)) ≤ 321)
    split
    · omega
    · exact s_ky_rg n (w + 1) (by omega)
section
variable {tp : Int → Int} {ln p : Int}
theorem kv1 : KV 261 ∧ (261 : Int) ≠ 260 := ⟨Or.inr (Or.inl ⟨by decide, by decide⟩), by decide⟩
theorem s_one_bd (hp : p < ln) : p ≤ (s_one tp ln p).2.1 ∧ (s_one tp ln p).2.1 ≤ ln ∧ ((s_one tp ln p).1 ≠ 261 → p < (s_one tp ln p).2.1) := by
  unfold s_one
  split
  · rename_i zl
    have b := s_wd_bd (tp := tp) (ln := ln) _ (p + 1) (w64 (w64 (0 * 37) + s_dg37 (tp p))) rfl (by omega)
    have e := s_wd_eq (tp := tp) (ln := ln) (j := p) (v := 0)
    rw [if_pos ⟨hp, Or.inl zl⟩] at e
    rw [← e] at b
    split
    · exact ⟨by show p ≤ (s_wd tp ln p 0).1; omega, b.2, fun y => absurd rfl y⟩
    · exact ⟨by show p ≤ (s_wd tp ln p 0).1; omega, b.2, fun _ => by show p < (s_wd tp ln p 0).1; omega⟩
  · split
    · rename_i zd
      have b := s_nu_bd (tp := tp) (ln := ln) _ (p + 1) (w64 (w64 (w64 (0 * 10) + tp p) - 48)) rfl (by omega)
      have e := s_nu_eq (tp := tp) (ln := ln) (j := p) (v := 0)
      rw [if_pos ⟨hp, zd⟩] at e
      rw [← e] at b
      exact ⟨by show p ≤ (s_nu tp ln p 0).1; omega, b.2, fun _ => by show p < (s_nu tp ln p 0).1; omega⟩
    · show p ≤ (s_sm tp ln p).2 ∧ (s_sm tp ln p).2 ≤ ln ∧ ((s_sm tp ln p).1 ≠ 261 → p < (s_sm tp ln p).2)
      unfold s_sm
      split
      · exact ⟨Int.le_refl _, Int.le_of_lt hp, fun y => absurd rfl y⟩
      · split
        · rename_i z
          have e := z.2
          unfold s_ch at e
          split at e
          · exact ⟨by show p ≤ p + 2; omega, by show p + 2 ≤ ln; omega, fun _ => by show p < p + 2; omega⟩
          · exact absurd e (by decide)
        · exact ⟨by show p ≤ p + 1; omega, by show p + 1 ≤ ln; omega, fun _ => by show p < p + 1; omega⟩
end
/-- the rows of the reference show tokens -/
def RN (h : AH) (tp : Int → Int) (tl : Int) (m : Nat) : Prop := ∀ j : Nat, j < m → am_m h 55 (j : Int) = rk (s_kd tp tl j) ∧ am_m h 56 (j : Int) = s_st tp tl j ∧ am_m h 58 (j : Int) = 0 ∧ am_m h 59 (j : Int) = 0 ∧ (s_kd tp tl j ≠ 260 → s_kd tp tl j ≠ 261 → s_st tp tl j + am_m h 57 (j : Int) = (s_one tp tl (s_st tp tl j)).2.1)
theorem RN.w {h : AH} {tp : Int → Int} {tl b v : Int} {m i : Nat} (x : RN h tp tl m) (hi : m ≤ i) : RN (am_w h b (i : Int) v) tp tl m := fun j hj => by
  rw [am_m_w, if_neg (by omega), am_m_w, if_neg (by omega), am_m_w, if_neg (by omega), am_m_w, if_neg (by omega), am_m_w, if_neg (by omega)]
  exact x j hj
section
variable {d : Nat} {h : AH} {pp ss : TT} {tt : Int → List Op} {tp : Int → Int} {tl er q : Int} {K : AK}
end
