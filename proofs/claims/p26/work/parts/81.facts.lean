/-! ===== where tokens lie ===== -/
section
variable {tp : Int → Int} {ln : Int}
theorem s_sk_bd : ∀ n : Nat, ∀ j : Int, (ln - j).toNat = n → j ≤ ln → j ≤ s_sk tp ln j ∧ s_sk tp ln j ≤ ln := by
  intro n
  induction n with
  | zero =>
    intro j hj hl
    rw [s_sk_eq, if_neg (fun y => by omega)]
    omega
  | succ n ih =>
    intro j hj hl
    rw [s_sk_eq]
    split
    · have := ih (j + 1) (by omega) (by omega)
      omega
    · omega
theorem s_nu_bd : ∀ n : Nat, ∀ j v : Int, (ln - j).toNat = n → j ≤ ln → j ≤ (s_nu tp ln j v).1 ∧ (s_nu tp ln j v).1 ≤ ln := by
  intro n
  induction n with
  | zero =>
    intro j v hj hl
    rw [s_nu_eq, if_neg (fun y => by omega)]
    exact ⟨Int.le_refl _, hl⟩
  | succ n ih =>
    intro j v hj hl
    rw [s_nu_eq]
    split
    · have := ih (j + 1) (w64 (w64 (w64 (v * 10) + tp j) - 48)) (by omega) (by omega)
      omega
    · exact ⟨Int.le_refl _, hl⟩
theorem s_wd_bd : ∀ n : Nat, ∀ j v : Int, (ln - j).toNat = n → j ≤ ln → j ≤ (s_wd tp ln j v).1 ∧ (s_wd tp ln j v).1 ≤ ln := by
  intro n
  induction n with
  | zero =>
    intro j v hj hl
    rw [s_wd_eq, if_neg (fun y => by omega)]
    exact ⟨Int.le_refl _, hl⟩
  | succ n ih =>
    intro j v hj hl
    rw [s_wd_eq]
    split
    · have := ih (j + 1) (w64 (w64 (v * 37) + s_dg37 (tp j))) (by omega) (by omega)
      omega
    · exact ⟨Int.le_refl _, hl⟩
end
theorem c91 {d : Nat} {h : AH} {ln po j : Int} {tp : Int → Int} {K : AK} (x : TK h ln po tp) (k : K 0 (if 0 ≤ j ∧ j < 401 then am_m h 25 j else -1) h) : am_call d 91 [(2, 22), (0, j)] h K := by
  refine v91 ⟨fun z => ?_, fun z => ?_⟩
  · rw [if_neg (by omega)] at k
    exact k
  · simp only [x.t, x.f2, x.t2, x.l2, true_and]
    refine ⟨⟨by decide, by decide⟩, fun z2 => ⟨⟨by omega, by omega⟩, ?_⟩, fun z2 => ?_⟩
    · rw [if_pos (by omega)] at k
      exact k
    · rw [if_neg (by omega)] at k
      exact k
