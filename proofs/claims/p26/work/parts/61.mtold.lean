/-! ===== the reference: what is told of wards, projects, voters ===== -/
theorem am_t_a {h : AH} {t : Nat} {n b : Int} {f : Int → Int} : am_t (am_a h t n f) b = if b = am_n h then t else am_t h b := rfl
theorem am_l_a {h : AH} {t : Nat} {n b : Int} {f : Int → Int} : am_l (am_a h t n f) b = if b = am_n h then n else am_l h b := rfl
theorem am_m_a {h : AH} {t : Nat} {n b j : Int} {f : Int → Int} : am_m (am_a h t n f) b j = if b = am_n h then f j else am_m h b j := rfl
theorem am_n_a {h : AH} {t : Nat} {n : Int} {f : Int → Int} : am_n (am_a h t n f) = am_n h + 1 := rfl
theorem Fr.a {lo n : Int} {h h1 : AH} {t : Nat} {m : Int} {f : Int → Int} (x : Fr lo n h h1) : Fr lo n h (am_a h1 t m f) := by
  obtain ⟨a1, a2, a3, a4, a5⟩ := x
  refine ⟨by rw [am_n_a]; omega, a2, a3, fun b hb => ?_, fun b hb hn i => ?_⟩
  · rw [am_t_a, am_l_a, if_neg (by omega), if_neg (by omega)]
    exact a4 b hb
  · rw [am_m_a, if_neg (by omega)]
    exact a5 b hb hn i
theorem Fr.nw {lo n a i v : Int} {h h1 : AH} (x : Fr lo n h h1) (hb : am_n h ≤ a) : Fr lo n h (am_w h1 a i v) := by
  obtain ⟨a1, a2, a3, a4, a5⟩ := x
  refine ⟨a1, a2, a3, a4, fun q hq hn j => ?_⟩
  rw [am_m_w, if_neg (by omega)]
  exact a5 q hq hn j
theorem tg_cf {pp ss : TT} {p : Int} (hI : PI pp) (hS : SI pp ss) : s_tg pp ss p 9999 = s_cf pp ss p := by
  have nv := hI.nv
  refine sm_congr (fun i hi => ?_)
  have := hS.purse (i := (i : Int)) (by omega) (by omega)
  unfold f_tg f_cf
  split
  · rfl
  · omega