/-! ===== the reference: one token ===== -/
theorem s_wf_v {tp : Int → Int} {ln : Int} : ∀ (n : Nat) (j v v2 : Int), (s_wf tp ln n j v).1 = (s_wf tp ln n j v2).1
  | 0, _, _, _ => rfl
  | n + 1, j, v, v2 => by
    show (if j < ln ∧ (s_le (tp j) = true ∨ s_di (tp j) = true) then s_wf tp ln n (j + 1) (w64 (w64 (v * 37) + s_dg37 (tp j))) else (j, v)).1 = (if j < ln ∧ (s_le (tp j) = true ∨ s_di (tp j) = true) then s_wf tp ln n (j + 1) (w64 (w64 (v2 * 37) + s_dg37 (tp j))) else (j, v2)).1
    split
    · exact s_wf_v n _ _ _
    · rfl
theorem s_wd_v {tp : Int → Int} {ln j v v2 : Int} : (s_wd tp ln j v).1 = (s_wd tp ln j v2).1 := s_wf_v _ _ _ _
theorem s_nf_v {tp : Int → Int} {ln : Int} : ∀ (n : Nat) (j v v2 : Int), (s_nf0 tp ln n j v).1 = (s_nf0 tp ln n j v2).1
  | 0, _, _, _ => rfl
  | n + 1, j, v, v2 => by
    show (if j < ln ∧ s_di (tp j) = true then s_nf0 tp ln n (j + 1) (w64 (w64 (w64 (v * 10) + tp j) - 48)) else (j, v)).1 = (if j < ln ∧ s_di (tp j) = true then s_nf0 tp ln n (j + 1) (w64 (w64 (w64 (v2 * 10) + tp j) - 48)) else (j, v2)).1
    split
    · exact s_nf_v n _ _ _
    · rfl
theorem s_nu_v {tp : Int → Int} {ln j v v2 : Int} : (s_nu tp ln j v).1 = (s_nu tp ln j v2).1 := s_nf_v _ _ _ _
section
variable {d : Nat} {h : AH} {pp ss : TT} {tt : Int → List Op} {tp : Int → Int} {tl er q p x : Int} {K : AK}
/-- what is asked of the answer -/
def KO (h : AH) (K : AK) (tp : Int → Int) (tl p x : Int) : Prop := ∀ v, ((s_one tp tl p).1 ≠ 261 → p + v = (s_one tp tl p).2.1) → K 0 (rk (s_one tp tl p).1) (am_w h 57 x v)
theorem rk_sign {v : Int} (h0 : 0 ≤ v) (h1 : v < 256) : rk v = 50 + v := by
  unfold rk
  rw [if_neg (by omega), if_neg (by omega), if_neg (by omega), if_neg (by omega), if_neg (by omega), if_neg (by omega), if_neg (by omega)]
end

