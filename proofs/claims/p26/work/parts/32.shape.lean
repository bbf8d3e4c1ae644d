/-! ===== how the objects lie: an object at a, its rows behind it ===== -/
def P3 (h : AH) (a q : Int) : Prop := am_t h a = 3 ∧ am_m h a 5 = q ∧ am_m h a 3 = a + 1 ∧ am_t h (a + 1) = 20 ∧ am_l h (a + 1) = 12 ∧ am_m h a 4 = a + 2 ∧ am_t h (a + 2) = 20 ∧ am_l h (a + 2) = 12 ∧ am_m h a 8 = a + 3 ∧ am_t h (a + 3) = 20 ∧ am_l h (a + 3) = 12 ∧ am_m h a 9 = a + 4 ∧ am_t h (a + 4) = 20 ∧ am_l h (a + 4) = 12 ∧ am_m h a 10 = a + 5 ∧ am_t h (a + 5) = 20 ∧ am_l h (a + 5) = 12 ∧ am_m h a 11 = a + 6 ∧ am_t h (a + 6) = 20 ∧ am_l h (a + 6) = 12 ∧ am_m h a 12 = a + 7 ∧ am_t h (a + 7) = 20 ∧ am_l h (a + 7) = 4 ∧ am_m h a 13 = a + 8 ∧ am_t h (a + 8) = 20 ∧ am_l h (a + 8) = 400 ∧ 0 ≤ a ∧ a + 8 < am_n h
theorem P3.t {h : AH} {a q : Int} (x : P3 h a q) : am_t h a = 3 := x.1
theorem P3.f5 {h : AH} {a q : Int} (x : P3 h a q) : am_m h a 5 = q := x.2.1
theorem P3.f3 {h : AH} {a q : Int} (x : P3 h a q) : am_m h a 3 = a + 1 := x.2.2.1
theorem P3.t1 {h : AH} {a q : Int} (x : P3 h a q) : am_t h (a + 1) = 20 := x.2.2.2.1
theorem P3.l1 {h : AH} {a q : Int} (x : P3 h a q) : am_l h (a + 1) = 12 := x.2.2.2.2.1
theorem P3.f4 {h : AH} {a q : Int} (x : P3 h a q) : am_m h a 4 = a + 2 := x.2.2.2.2.2.1
theorem P3.t2 {h : AH} {a q : Int} (x : P3 h a q) : am_t h (a + 2) = 20 := x.2.2.2.2.2.2.1
theorem P3.l2 {h : AH} {a q : Int} (x : P3 h a q) : am_l h (a + 2) = 12 := x.2.2.2.2.2.2.2.1
theorem P3.f8 {h : AH} {a q : Int} (x : P3 h a q) : am_m h a 8 = a + 3 := x.2.2.2.2.2.2.2.2.1
theorem P3.t3 {h : AH} {a q : Int} (x : P3 h a q) : am_t h (a + 3) = 20 := x.2.2.2.2.2.2.2.2.2.1
theorem P3.l3 {h : AH} {a q : Int} (x : P3 h a q) : am_l h (a + 3) = 12 := x.2.2.2.2.2.2.2.2.2.2.1
theorem P3.f9 {h : AH} {a q : Int} (x : P3 h a q) : am_m h a 9 = a + 4 := x.2.2.2.2.2.2.2.2.2.2.2.1
theorem P3.t4 {h : AH} {a q : Int} (x : P3 h a q) : am_t h (a + 4) = 20 := x.2.2.2.2.2.2.2.2.2.2.2.2.1
theorem P3.l4 {h : AH} {a q : Int} (x : P3 h a q) : am_l h (a + 4) = 12 := x.2.2.2.2.2.2.2.2.2.2.2.2.2.1
theorem P3.f10 {h : AH} {a q : Int} (x : P3 h a q) : am_m h a 10 = a + 5 := x.2.2.2.2.2.2.2.2.2.2.2.2.2.2.1
theorem P3.t5 {h : AH} {a q : Int} (x : P3 h a q) : am_t h (a + 5) = 20 := x.2.2.2.2.2.2.2.2.2.2.2.2.2.2.2.1
theorem P3.l5 {h : AH} {a q : Int} (x : P3 h a q) : am_l h (a + 5) = 12 := x.2.2.2.2.2.2.2.2.2.2.2.2.2.2.2.2.1
theorem P3.f11 {h : AH} {a q : Int} (x : P3 h a q) : am_m h a 11 = a + 6 := x.2.2.2.2.2.2.2.2.2.2.2.2.2.2.2.2.2.1
theorem P3.t6 {h : AH} {a q : Int} (x : P3 h a q) : am_t h (a + 6) = 20 := x.2.2.2.2.2.2.2.2.2.2.2.2.2.2.2.2.2.2.1
theorem P3.l6 {h : AH} {a q : Int} (x : P3 h a q) : am_l h (a + 6) = 12 := x.2.2.2.2.2.2.2.2.2.2.2.2.2.2.2.2.2.2.2.1
theorem P3.f12 {h : AH} {a q : Int} (x : P3 h a q) : am_m h a 12 = a + 7 := x.2.2.2.2.2.2.2.2.2.2.2.2.2.2.2.2.2.2.2.2.1
theorem P3.t7 {h : AH} {a q : Int} (x : P3 h a q) : am_t h (a + 7) = 20 := x.2.2.2.2.2.2.2.2.2.2.2.2.2.2.2.2.2.2.2.2.2.1
theorem P3.l7 {h : AH} {a q : Int} (x : P3 h a q) : am_l h (a + 7) = 4 := x.2.2.2.2.2.2.2.2.2.2.2.2.2.2.2.2.2.2.2.2.2.2.1
theorem P3.f13 {h : AH} {a q : Int} (x : P3 h a q) : am_m h a 13 = a + 8 := x.2.2.2.2.2.2.2.2.2.2.2.2.2.2.2.2.2.2.2.2.2.2.2.1
theorem P3.t8 {h : AH} {a q : Int} (x : P3 h a q) : am_t h (a + 8) = 20 := x.2.2.2.2.2.2.2.2.2.2.2.2.2.2.2.2.2.2.2.2.2.2.2.2.1
theorem P3.l8 {h : AH} {a q : Int} (x : P3 h a q) : am_l h (a + 8) = 400 := x.2.2.2.2.2.2.2.2.2.2.2.2.2.2.2.2.2.2.2.2.2.2.2.2.2.1
theorem P3.p {h : AH} {a q : Int} (x : P3 h a q) : 0 ≤ a := x.2.2.2.2.2.2.2.2.2.2.2.2.2.2.2.2.2.2.2.2.2.2.2.2.2.2.1
theorem P3.b {h : AH} {a q : Int} (x : P3 h a q) : a + 8 < am_n h := x.2.2.2.2.2.2.2.2.2.2.2.2.2.2.2.2.2.2.2.2.2.2.2.2.2.2.2
theorem P3.fr {h h1 : AH} {a q lo n : Int} (x : P3 h a q) (fr : Fr lo n h h1) (ap : a + 9 ≤ lo ∨ lo + n ≤ a) : P3 h1 a q := by
  obtain ⟨a1, a2, a3, a4, a5⟩ := fr
  have hp := x.p
  have hb := x.b
  refine ⟨?_, ?_, ?_, ?_, ?_, ?_, ?_, ?_, ?_, ?_, ?_, ?_, ?_, ?_, ?_, ?_, ?_, ?_, ?_, ?_, ?_, ?_, ?_, ?_, ?_, ?_, ?_, ?_⟩
  · rw [(a4 a (by omega)).1]; exact x.t
  · rw [a5 a (by omega) (by omega)]; exact x.f5
  · rw [a5 a (by omega) (by omega)]; exact x.f3
  · rw [(a4 (a + 1) (by omega)).1]; exact x.t1
  · rw [(a4 (a + 1) (by omega)).2]; exact x.l1
  · rw [a5 a (by omega) (by omega)]; exact x.f4
  · rw [(a4 (a + 2) (by omega)).1]; exact x.t2
  · rw [(a4 (a + 2) (by omega)).2]; exact x.l2
  · rw [a5 a (by omega) (by omega)]; exact x.f8
  · rw [(a4 (a + 3) (by omega)).1]; exact x.t3
  · rw [(a4 (a + 3) (by omega)).2]; exact x.l3
  · rw [a5 a (by omega) (by omega)]; exact x.f9
  · rw [(a4 (a + 4) (by omega)).1]; exact x.t4
  · rw [(a4 (a + 4) (by omega)).2]; exact x.l4
  · rw [a5 a (by omega) (by omega)]; exact x.f10
  · rw [(a4 (a + 5) (by omega)).1]; exact x.t5
  · rw [(a4 (a + 5) (by omega)).2]; exact x.l5
  · rw [a5 a (by omega) (by omega)]; exact x.f11
  · rw [(a4 (a + 6) (by omega)).1]; exact x.t6
  · rw [(a4 (a + 6) (by omega)).2]; exact x.l6
  · rw [a5 a (by omega) (by omega)]; exact x.f12
  · rw [(a4 (a + 7) (by omega)).1]; exact x.t7
  · rw [(a4 (a + 7) (by omega)).2]; exact x.l7
  · rw [a5 a (by omega) (by omega)]; exact x.f13
  · rw [(a4 (a + 8) (by omega)).1]; exact x.t8
  · rw [(a4 (a + 8) (by omega)).2]; exact x.l8
  · exact hp
  · omega
theorem P3.w {h : AH} {a q b i v : Int} (x : P3 h a q) (ap : b ≠ a ∨ (i ≠ 5 ∧ i ≠ 3 ∧ i ≠ 4 ∧ i ≠ 8 ∧ i ≠ 9 ∧ i ≠ 10 ∧ i ≠ 11 ∧ i ≠ 12 ∧ i ≠ 13)) : P3 (am_w h b i v) a q := by
  refine ⟨x.t, ?_, ?_, x.t1, x.l1, ?_, x.t2, x.l2, ?_, x.t3, x.l3, ?_, x.t4, x.l4, ?_, x.t5, x.l5, ?_, x.t6, x.l6, ?_, x.t7, x.l7, ?_, x.t8, x.l8, x.p, x.b⟩
  · rw [am_m_w, if_neg (by omega)]; exact x.f5
  · rw [am_m_w, if_neg (by omega)]; exact x.f3
  · rw [am_m_w, if_neg (by omega)]; exact x.f4
  · rw [am_m_w, if_neg (by omega)]; exact x.f8
  · rw [am_m_w, if_neg (by omega)]; exact x.f9
  · rw [am_m_w, if_neg (by omega)]; exact x.f10
  · rw [am_m_w, if_neg (by omega)]; exact x.f11
  · rw [am_m_w, if_neg (by omega)]; exact x.f12
  · rw [am_m_w, if_neg (by omega)]; exact x.f13
def P4 (h : AH) (a : Int) : Prop := am_t h a = 4 ∧ am_m h a 6 = a + 1 ∧ am_t h (a + 1) = 20 ∧ am_l h (a + 1) = 4 ∧ am_m h a 7 = a + 2 ∧ am_t h (a + 2) = 20 ∧ am_l h (a + 2) = 12 ∧ am_m h a 8 = a + 3 ∧ am_t h (a + 3) = 20 ∧ am_l h (a + 3) = 12 ∧ am_m h a 9 = a + 4 ∧ am_t h (a + 4) = 20 ∧ am_l h (a + 4) = 12 ∧ am_m h a 10 = a + 5 ∧ am_t h (a + 5) = 20 ∧ am_l h (a + 5) = 12 ∧ am_m h a 11 = a + 6 ∧ am_t h (a + 6) = 20 ∧ am_l h (a + 6) = 12 ∧ am_m h a 12 = a + 7 ∧ am_t h (a + 7) = 20 ∧ am_l h (a + 7) = 12 ∧ am_m h a 13 = a + 8 ∧ am_t h (a + 8) = 20 ∧ am_l h (a + 8) = 400 ∧ am_m h a 14 = a + 9 ∧ am_t h (a + 9) = 20 ∧ am_l h (a + 9) = 400 ∧ 0 ≤ a ∧ a + 9 < am_n h
theorem P4.t {h : AH} {a : Int} (x : P4 h a) : am_t h a = 4 := x.1
theorem P4.f6 {h : AH} {a : Int} (x : P4 h a) : am_m h a 6 = a + 1 := x.2.1
theorem P4.t1 {h : AH} {a : Int} (x : P4 h a) : am_t h (a + 1) = 20 := x.2.2.1
theorem P4.l1 {h : AH} {a : Int} (x : P4 h a) : am_l h (a + 1) = 4 := x.2.2.2.1
theorem P4.f7 {h : AH} {a : Int} (x : P4 h a) : am_m h a 7 = a + 2 := x.2.2.2.2.1
theorem P4.t2 {h : AH} {a : Int} (x : P4 h a) : am_t h (a + 2) = 20 := x.2.2.2.2.2.1
theorem P4.l2 {h : AH} {a : Int} (x : P4 h a) : am_l h (a + 2) = 12 := x.2.2.2.2.2.2.1
theorem P4.f8 {h : AH} {a : Int} (x : P4 h a) : am_m h a 8 = a + 3 := x.2.2.2.2.2.2.2.1
theorem P4.t3 {h : AH} {a : Int} (x : P4 h a) : am_t h (a + 3) = 20 := x.2.2.2.2.2.2.2.2.1
theorem P4.l3 {h : AH} {a : Int} (x : P4 h a) : am_l h (a + 3) = 12 := x.2.2.2.2.2.2.2.2.2.1
theorem P4.f9 {h : AH} {a : Int} (x : P4 h a) : am_m h a 9 = a + 4 := x.2.2.2.2.2.2.2.2.2.2.1
theorem P4.t4 {h : AH} {a : Int} (x : P4 h a) : am_t h (a + 4) = 20 := x.2.2.2.2.2.2.2.2.2.2.2.1
theorem P4.l4 {h : AH} {a : Int} (x : P4 h a) : am_l h (a + 4) = 12 := x.2.2.2.2.2.2.2.2.2.2.2.2.1
theorem P4.f10 {h : AH} {a : Int} (x : P4 h a) : am_m h a 10 = a + 5 := x.2.2.2.2.2.2.2.2.2.2.2.2.2.1
theorem P4.t5 {h : AH} {a : Int} (x : P4 h a) : am_t h (a + 5) = 20 := x.2.2.2.2.2.2.2.2.2.2.2.2.2.2.1
theorem P4.l5 {h : AH} {a : Int} (x : P4 h a) : am_l h (a + 5) = 12 := x.2.2.2.2.2.2.2.2.2.2.2.2.2.2.2.1
theorem P4.f11 {h : AH} {a : Int} (x : P4 h a) : am_m h a 11 = a + 6 := x.2.2.2.2.2.2.2.2.2.2.2.2.2.2.2.2.1
theorem P4.t6 {h : AH} {a : Int} (x : P4 h a) : am_t h (a + 6) = 20 := x.2.2.2.2.2.2.2.2.2.2.2.2.2.2.2.2.2.1
theorem P4.l6 {h : AH} {a : Int} (x : P4 h a) : am_l h (a + 6) = 12 := x.2.2.2.2.2.2.2.2.2.2.2.2.2.2.2.2.2.2.1
theorem P4.f12 {h : AH} {a : Int} (x : P4 h a) : am_m h a 12 = a + 7 := x.2.2.2.2.2.2.2.2.2.2.2.2.2.2.2.2.2.2.2.1
theorem P4.t7 {h : AH} {a : Int} (x : P4 h a) : am_t h (a + 7) = 20 := x.2.2.2.2.2.2.2.2.2.2.2.2.2.2.2.2.2.2.2.2.1
theorem P4.l7 {h : AH} {a : Int} (x : P4 h a) : am_l h (a + 7) = 12 := x.2.2.2.2.2.2.2.2.2.2.2.2.2.2.2.2.2.2.2.2.2.1
theorem P4.f13 {h : AH} {a : Int} (x : P4 h a) : am_m h a 13 = a + 8 := x.2.2.2.2.2.2.2.2.2.2.2.2.2.2.2.2.2.2.2.2.2.2.1
theorem P4.t8 {h : AH} {a : Int} (x : P4 h a) : am_t h (a + 8) = 20 := x.2.2.2.2.2.2.2.2.2.2.2.2.2.2.2.2.2.2.2.2.2.2.2.1
theorem P4.l8 {h : AH} {a : Int} (x : P4 h a) : am_l h (a + 8) = 400 := x.2.2.2.2.2.2.2.2.2.2.2.2.2.2.2.2.2.2.2.2.2.2.2.2.1
theorem P4.f14 {h : AH} {a : Int} (x : P4 h a) : am_m h a 14 = a + 9 := x.2.2.2.2.2.2.2.2.2.2.2.2.2.2.2.2.2.2.2.2.2.2.2.2.2.1
theorem P4.t9 {h : AH} {a : Int} (x : P4 h a) : am_t h (a + 9) = 20 := x.2.2.2.2.2.2.2.2.2.2.2.2.2.2.2.2.2.2.2.2.2.2.2.2.2.2.1
theorem P4.l9 {h : AH} {a : Int} (x : P4 h a) : am_l h (a + 9) = 400 := x.2.2.2.2.2.2.2.2.2.2.2.2.2.2.2.2.2.2.2.2.2.2.2.2.2.2.2.1
theorem P4.p {h : AH} {a : Int} (x : P4 h a) : 0 ≤ a := x.2.2.2.2.2.2.2.2.2.2.2.2.2.2.2.2.2.2.2.2.2.2.2.2.2.2.2.2.1
theorem P4.b {h : AH} {a : Int} (x : P4 h a) : a + 9 < am_n h := x.2.2.2.2.2.2.2.2.2.2.2.2.2.2.2.2.2.2.2.2.2.2.2.2.2.2.2.2.2
theorem P4.fr {h h1 : AH} {a lo n : Int} (x : P4 h a) (fr : Fr lo n h h1) (ap : a + 10 ≤ lo ∨ lo + n ≤ a) : P4 h1 a := by
  obtain ⟨a1, a2, a3, a4, a5⟩ := fr
  have hp := x.p
  have hb := x.b
  refine ⟨?_, ?_, ?_, ?_, ?_, ?_, ?_, ?_, ?_, ?_, ?_, ?_, ?_, ?_, ?_, ?_, ?_, ?_, ?_, ?_, ?_, ?_, ?_, ?_, ?_, ?_, ?_, ?_, ?_, ?_⟩
  · rw [(a4 a (by omega)).1]; exact x.t
  · rw [a5 a (by omega) (by omega)]; exact x.f6
  · rw [(a4 (a + 1) (by omega)).1]; exact x.t1
  · rw [(a4 (a + 1) (by omega)).2]; exact x.l1
  · rw [a5 a (by omega) (by omega)]; exact x.f7
  · rw [(a4 (a + 2) (by omega)).1]; exact x.t2
  · rw [(a4 (a + 2) (by omega)).2]; exact x.l2
  · rw [a5 a (by omega) (by omega)]; exact x.f8
  · rw [(a4 (a + 3) (by omega)).1]; exact x.t3
  · rw [(a4 (a + 3) (by omega)).2]; exact x.l3
  · rw [a5 a (by omega) (by omega)]; exact x.f9
  · rw [(a4 (a + 4) (by omega)).1]; exact x.t4
  · rw [(a4 (a + 4) (by omega)).2]; exact x.l4
  · rw [a5 a (by omega) (by omega)]; exact x.f10
  · rw [(a4 (a + 5) (by omega)).1]; exact x.t5
  · rw [(a4 (a + 5) (by omega)).2]; exact x.l5
  · rw [a5 a (by omega) (by omega)]; exact x.f11
  · rw [(a4 (a + 6) (by omega)).1]; exact x.t6
  · rw [(a4 (a + 6) (by omega)).2]; exact x.l6
  · rw [a5 a (by omega) (by omega)]; exact x.f12
  · rw [(a4 (a + 7) (by omega)).1]; exact x.t7
  · rw [(a4 (a + 7) (by omega)).2]; exact x.l7
  · rw [a5 a (by omega) (by omega)]; exact x.f13
  · rw [(a4 (a + 8) (by omega)).1]; exact x.t8
  · rw [(a4 (a + 8) (by omega)).2]; exact x.l8
  · rw [a5 a (by omega) (by omega)]; exact x.f14
  · rw [(a4 (a + 9) (by omega)).1]; exact x.t9
  · rw [(a4 (a + 9) (by omega)).2]; exact x.l9
  · exact hp
  · omega
theorem P4.w {h : AH} {a b i v : Int} (x : P4 h a) (ap : b ≠ a ∨ (i ≠ 6 ∧ i ≠ 7 ∧ i ≠ 8 ∧ i ≠ 9 ∧ i ≠ 10 ∧ i ≠ 11 ∧ i ≠ 12 ∧ i ≠ 13 ∧ i ≠ 14)) : P4 (am_w h b i v) a := by
  refine ⟨x.t, ?_, x.t1, x.l1, ?_, x.t2, x.l2, ?_, x.t3, x.l3, ?_, x.t4, x.l4, ?_, x.t5, x.l5, ?_, x.t6, x.l6, ?_, x.t7, x.l7, ?_, x.t8, x.l8, ?_, x.t9, x.l9, x.p, x.b⟩
  · rw [am_m_w, if_neg (by omega)]; exact x.f6
  · rw [am_m_w, if_neg (by omega)]; exact x.f7
  · rw [am_m_w, if_neg (by omega)]; exact x.f8
  · rw [am_m_w, if_neg (by omega)]; exact x.f9
  · rw [am_m_w, if_neg (by omega)]; exact x.f10
  · rw [am_m_w, if_neg (by omega)]; exact x.f11
  · rw [am_m_w, if_neg (by omega)]; exact x.f12
  · rw [am_m_w, if_neg (by omega)]; exact x.f13
  · rw [am_m_w, if_neg (by omega)]; exact x.f14
def S8 (h : AH) (a u : Int) : Prop := am_t h a = 8 ∧ am_m h a 11 = u ∧ am_m h a 3 = a + 1 ∧ am_t h (a + 1) = 20 ∧ am_l h (a + 1) = 12 ∧ am_m h a 4 = a + 2 ∧ am_t h (a + 2) = 20 ∧ am_l h (a + 2) = 12 ∧ am_m h a 5 = a + 3 ∧ am_t h (a + 3) = 20 ∧ am_l h (a + 3) = 12 ∧ am_m h a 6 = a + 4 ∧ am_t h (a + 4) = 20 ∧ am_l h (a + 4) = 12 ∧ am_m h a 7 = a + 5 ∧ am_t h (a + 5) = 20 ∧ am_l h (a + 5) = 12 ∧ am_m h a 8 = a + 6 ∧ am_t h (a + 6) = 20 ∧ am_l h (a + 6) = 12 ∧ am_m h a 10 = a + 7 ∧ am_t h (a + 7) = 20 ∧ am_l h (a + 7) = 400 ∧ 0 ≤ a ∧ a + 7 < am_n h
theorem S8.t {h : AH} {a u : Int} (x : S8 h a u) : am_t h a = 8 := x.1
theorem S8.f11 {h : AH} {a u : Int} (x : S8 h a u) : am_m h a 11 = u := x.2.1
theorem S8.f3 {h : AH} {a u : Int} (x : S8 h a u) : am_m h a 3 = a + 1 := x.2.2.1
theorem S8.t1 {h : AH} {a u : Int} (x : S8 h a u) : am_t h (a + 1) = 20 := x.2.2.2.1
theorem S8.l1 {h : AH} {a u : Int} (x : S8 h a u) : am_l h (a + 1) = 12 := x.2.2.2.2.1
theorem S8.f4 {h : AH} {a u : Int} (x : S8 h a u) : am_m h a 4 = a + 2 := x.2.2.2.2.2.1
theorem S8.t2 {h : AH} {a u : Int} (x : S8 h a u) : am_t h (a + 2) = 20 := x.2.2.2.2.2.2.1
theorem S8.l2 {h : AH} {a u : Int} (x : S8 h a u) : am_l h (a + 2) = 12 := x.2.2.2.2.2.2.2.1
theorem S8.f5 {h : AH} {a u : Int} (x : S8 h a u) : am_m h a 5 = a + 3 := x.2.2.2.2.2.2.2.2.1
theorem S8.t3 {h : AH} {a u : Int} (x : S8 h a u) : am_t h (a + 3) = 20 := x.2.2.2.2.2.2.2.2.2.1
theorem S8.l3 {h : AH} {a u : Int} (x : S8 h a u) : am_l h (a + 3) = 12 := x.2.2.2.2.2.2.2.2.2.2.1
theorem S8.f6 {h : AH} {a u : Int} (x : S8 h a u) : am_m h a 6 = a + 4 := x.2.2.2.2.2.2.2.2.2.2.2.1
theorem S8.t4 {h : AH} {a u : Int} (x : S8 h a u) : am_t h (a + 4) = 20 := x.2.2.2.2.2.2.2.2.2.2.2.2.1
theorem S8.l4 {h : AH} {a u : Int} (x : S8 h a u) : am_l h (a + 4) = 12 := x.2.2.2.2.2.2.2.2.2.2.2.2.2.1
theorem S8.f7 {h : AH} {a u : Int} (x : S8 h a u) : am_m h a 7 = a + 5 := x.2.2.2.2.2.2.2.2.2.2.2.2.2.2.1
theorem S8.t5 {h : AH} {a u : Int} (x : S8 h a u) : am_t h (a + 5) = 20 := x.2.2.2.2.2.2.2.2.2.2.2.2.2.2.2.1
theorem S8.l5 {h : AH} {a u : Int} (x : S8 h a u) : am_l h (a + 5) = 12 := x.2.2.2.2.2.2.2.2.2.2.2.2.2.2.2.2.1
theorem S8.f8 {h : AH} {a u : Int} (x : S8 h a u) : am_m h a 8 = a + 6 := x.2.2.2.2.2.2.2.2.2.2.2.2.2.2.2.2.2.1
theorem S8.t6 {h : AH} {a u : Int} (x : S8 h a u) : am_t h (a + 6) = 20 := x.2.2.2.2.2.2.2.2.2.2.2.2.2.2.2.2.2.2.1
theorem S8.l6 {h : AH} {a u : Int} (x : S8 h a u) : am_l h (a + 6) = 12 := x.2.2.2.2.2.2.2.2.2.2.2.2.2.2.2.2.2.2.2.1
theorem S8.f10 {h : AH} {a u : Int} (x : S8 h a u) : am_m h a 10 = a + 7 := x.2.2.2.2.2.2.2.2.2.2.2.2.2.2.2.2.2.2.2.2.1
theorem S8.t7 {h : AH} {a u : Int} (x : S8 h a u) : am_t h (a + 7) = 20 := x.2.2.2.2.2.2.2.2.2.2.2.2.2.2.2.2.2.2.2.2.2.1
theorem S8.l7 {h : AH} {a u : Int} (x : S8 h a u) : am_l h (a + 7) = 400 := x.2.2.2.2.2.2.2.2.2.2.2.2.2.2.2.2.2.2.2.2.2.2.1
theorem S8.p {h : AH} {a u : Int} (x : S8 h a u) : 0 ≤ a := x.2.2.2.2.2.2.2.2.2.2.2.2.2.2.2.2.2.2.2.2.2.2.2.1
theorem S8.b {h : AH} {a u : Int} (x : S8 h a u) : a + 7 < am_n h := x.2.2.2.2.2.2.2.2.2.2.2.2.2.2.2.2.2.2.2.2.2.2.2.2
theorem S8.fr {h h1 : AH} {a u lo n : Int} (x : S8 h a u) (fr : Fr lo n h h1) (ap : a + 8 ≤ lo ∨ lo + n ≤ a) : S8 h1 a u := by
  obtain ⟨a1, a2, a3, a4, a5⟩ := fr
  have hp := x.p
  have hb := x.b
  refine ⟨?_, ?_, ?_, ?_, ?_, ?_, ?_, ?_, ?_, ?_, ?_, ?_, ?_, ?_, ?_, ?_, ?_, ?_, ?_, ?_, ?_, ?_, ?_, ?_, ?_⟩
  · rw [(a4 a (by omega)).1]; exact x.t
  · rw [a5 a (by omega) (by omega)]; exact x.f11
  · rw [a5 a (by omega) (by omega)]; exact x.f3
  · rw [(a4 (a + 1) (by omega)).1]; exact x.t1
  · rw [(a4 (a + 1) (by omega)).2]; exact x.l1
  · rw [a5 a (by omega) (by omega)]; exact x.f4
  · rw [(a4 (a + 2) (by omega)).1]; exact x.t2
  · rw [(a4 (a + 2) (by omega)).2]; exact x.l2
  · rw [a5 a (by omega) (by omega)]; exact x.f5
  · rw [(a4 (a + 3) (by omega)).1]; exact x.t3
  · rw [(a4 (a + 3) (by omega)).2]; exact x.l3
  · rw [a5 a (by omega) (by omega)]; exact x.f6
  · rw [(a4 (a + 4) (by omega)).1]; exact x.t4
  · rw [(a4 (a + 4) (by omega)).2]; exact x.l4
  · rw [a5 a (by omega) (by omega)]; exact x.f7
  · rw [(a4 (a + 5) (by omega)).1]; exact x.t5
  · rw [(a4 (a + 5) (by omega)).2]; exact x.l5
  · rw [a5 a (by omega) (by omega)]; exact x.f8
  · rw [(a4 (a + 6) (by omega)).1]; exact x.t6
  · rw [(a4 (a + 6) (by omega)).2]; exact x.l6
  · rw [a5 a (by omega) (by omega)]; exact x.f10
  · rw [(a4 (a + 7) (by omega)).1]; exact x.t7
  · rw [(a4 (a + 7) (by omega)).2]; exact x.l7
  · exact hp
  · omega
theorem S8.w {h : AH} {a u b i v : Int} (x : S8 h a u) (ap : b ≠ a ∨ (i ≠ 11 ∧ i ≠ 3 ∧ i ≠ 4 ∧ i ≠ 5 ∧ i ≠ 6 ∧ i ≠ 7 ∧ i ≠ 8 ∧ i ≠ 10)) : S8 (am_w h b i v) a u := by
  refine ⟨x.t, ?_, ?_, x.t1, x.l1, ?_, x.t2, x.l2, ?_, x.t3, x.l3, ?_, x.t4, x.l4, ?_, x.t5, x.l5, ?_, x.t6, x.l6, ?_, x.t7, x.l7, x.p, x.b⟩
  · rw [am_m_w, if_neg (by omega)]; exact x.f11
  · rw [am_m_w, if_neg (by omega)]; exact x.f3
  · rw [am_m_w, if_neg (by omega)]; exact x.f4
  · rw [am_m_w, if_neg (by omega)]; exact x.f5
  · rw [am_m_w, if_neg (by omega)]; exact x.f6
  · rw [am_m_w, if_neg (by omega)]; exact x.f7
  · rw [am_m_w, if_neg (by omega)]; exact x.f8
  · rw [am_m_w, if_neg (by omega)]; exact x.f10
def P7 (h : AH) (a : Int) : Prop := am_t h a = 7 ∧ am_m h a 1 = a + 1 ∧ am_t h (a + 1) = 20 ∧ am_l h (a + 1) = 4 ∧ am_m h a 3 = a + 2 ∧ am_t h (a + 2) = 20 ∧ am_l h (a + 2) = 12 ∧ am_m h a 4 = a + 3 ∧ am_t h (a + 3) = 20 ∧ am_l h (a + 3) = 12 ∧ am_m h a 5 = a + 4 ∧ am_t h (a + 4) = 20 ∧ am_l h (a + 4) = 12 ∧ am_m h a 7 = a + 5 ∧ am_t h (a + 5) = 20 ∧ am_l h (a + 5) = 12 ∧ am_m h a 11 = a + 6 ∧ am_t h (a + 6) = 20 ∧ am_l h (a + 6) = 12 ∧ am_m h a 12 = a + 7 ∧ am_t h (a + 7) = 20 ∧ am_l h (a + 7) = 13 ∧ am_m h a 13 = a + 8 ∧ am_t h (a + 8) = 20 ∧ am_l h (a + 8) = 13 ∧ am_m h a 14 = a + 9 ∧ am_t h (a + 9) = 20 ∧ am_l h (a + 9) = 800 ∧ am_m h a 16 = a + 10 ∧ am_t h (a + 10) = 20 ∧ am_l h (a + 10) = 400 ∧ 0 ≤ a ∧ a + 10 < am_n h
theorem P7.t {h : AH} {a : Int} (x : P7 h a) : am_t h a = 7 := x.1
theorem P7.f1 {h : AH} {a : Int} (x : P7 h a) : am_m h a 1 = a + 1 := x.2.1
theorem P7.t1 {h : AH} {a : Int} (x : P7 h a) : am_t h (a + 1) = 20 := x.2.2.1
theorem P7.l1 {h : AH} {a : Int} (x : P7 h a) : am_l h (a + 1) = 4 := x.2.2.2.1
theorem P7.f3 {h : AH} {a : Int} (x : P7 h a) : am_m h a 3 = a + 2 := x.2.2.2.2.1
theorem P7.t2 {h : AH} {a : Int} (x : P7 h a) : am_t h (a + 2) = 20 := x.2.2.2.2.2.1
theorem P7.l2 {h : AH} {a : Int} (x : P7 h a) : am_l h (a + 2) = 12 := x.2.2.2.2.2.2.1
theorem P7.f4 {h : AH} {a : Int} (x : P7 h a) : am_m h a 4 = a + 3 := x.2.2.2.2.2.2.2.1
theorem P7.t3 {h : AH} {a : Int} (x : P7 h a) : am_t h (a + 3) = 20 := x.2.2.2.2.2.2.2.2.1
theorem P7.l3 {h : AH} {a : Int} (x : P7 h a) : am_l h (a + 3) = 12 := x.2.2.2.2.2.2.2.2.2.1
theorem P7.f5 {h : AH} {a : Int} (x : P7 h a) : am_m h a 5 = a + 4 := x.2.2.2.2.2.2.2.2.2.2.1
theorem P7.t4 {h : AH} {a : Int} (x : P7 h a) : am_t h (a + 4) = 20 := x.2.2.2.2.2.2.2.2.2.2.2.1
theorem P7.l4 {h : AH} {a : Int} (x : P7 h a) : am_l h (a + 4) = 12 := x.2.2.2.2.2.2.2.2.2.2.2.2.1
theorem P7.f7 {h : AH} {a : Int} (x : P7 h a) : am_m h a 7 = a + 5 := x.2.2.2.2.2.2.2.2.2.2.2.2.2.1
theorem P7.t5 {h : AH} {a : Int} (x : P7 h a) : am_t h (a + 5) = 20 := x.2.2.2.2.2.2.2.2.2.2.2.2.2.2.1
theorem P7.l5 {h : AH} {a : Int} (x : P7 h a) : am_l h (a + 5) = 12 := x.2.2.2.2.2.2.2.2.2.2.2.2.2.2.2.1
theorem P7.f11 {h : AH} {a : Int} (x : P7 h a) : am_m h a 11 = a + 6 := x.2.2.2.2.2.2.2.2.2.2.2.2.2.2.2.2.1
theorem P7.t6 {h : AH} {a : Int} (x : P7 h a) : am_t h (a + 6) = 20 := x.2.2.2.2.2.2.2.2.2.2.2.2.2.2.2.2.2.1
theorem P7.l6 {h : AH} {a : Int} (x : P7 h a) : am_l h (a + 6) = 12 := x.2.2.2.2.2.2.2.2.2.2.2.2.2.2.2.2.2.2.1
theorem P7.f12 {h : AH} {a : Int} (x : P7 h a) : am_m h a 12 = a + 7 := x.2.2.2.2.2.2.2.2.2.2.2.2.2.2.2.2.2.2.2.1
theorem P7.t7 {h : AH} {a : Int} (x : P7 h a) : am_t h (a + 7) = 20 := x.2.2.2.2.2.2.2.2.2.2.2.2.2.2.2.2.2.2.2.2.1
theorem P7.l7 {h : AH} {a : Int} (x : P7 h a) : am_l h (a + 7) = 13 := x.2.2.2.2.2.2.2.2.2.2.2.2.2.2.2.2.2.2.2.2.2.1
theorem P7.f13 {h : AH} {a : Int} (x : P7 h a) : am_m h a 13 = a + 8 := x.2.2.2.2.2.2.2.2.2.2.2.2.2.2.2.2.2.2.2.2.2.2.1
theorem P7.t8 {h : AH} {a : Int} (x : P7 h a) : am_t h (a + 8) = 20 := x.2.2.2.2.2.2.2.2.2.2.2.2.2.2.2.2.2.2.2.2.2.2.2.1
theorem P7.l8 {h : AH} {a : Int} (x : P7 h a) : am_l h (a + 8) = 13 := x.2.2.2.2.2.2.2.2.2.2.2.2.2.2.2.2.2.2.2.2.2.2.2.2.1
theorem P7.f14 {h : AH} {a : Int} (x : P7 h a) : am_m h a 14 = a + 9 := x.2.2.2.2.2.2.2.2.2.2.2.2.2.2.2.2.2.2.2.2.2.2.2.2.2.1
theorem P7.t9 {h : AH} {a : Int} (x : P7 h a) : am_t h (a + 9) = 20 := x.2.2.2.2.2.2.2.2.2.2.2.2.2.2.2.2.2.2.2.2.2.2.2.2.2.2.1
theorem P7.l9 {h : AH} {a : Int} (x : P7 h a) : am_l h (a + 9) = 800 := x.2.2.2.2.2.2.2.2.2.2.2.2.2.2.2.2.2.2.2.2.2.2.2.2.2.2.2.1
theorem P7.f16 {h : AH} {a : Int} (x : P7 h a) : am_m h a 16 = a + 10 := x.2.2.2.2.2.2.2.2.2.2.2.2.2.2.2.2.2.2.2.2.2.2.2.2.2.2.2.2.1
theorem P7.t10 {h : AH} {a : Int} (x : P7 h a) : am_t h (a + 10) = 20 := x.2.2.2.2.2.2.2.2.2.2.2.2.2.2.2.2.2.2.2.2.2.2.2.2.2.2.2.2.2.1
theorem P7.l10 {h : AH} {a : Int} (x : P7 h a) : am_l h (a + 10) = 400 := x.2.2.2.2.2.2.2.2.2.2.2.2.2.2.2.2.2.2.2.2.2.2.2.2.2.2.2.2.2.2.1
theorem P7.p {h : AH} {a : Int} (x : P7 h a) : 0 ≤ a := x.2.2.2.2.2.2.2.2.2.2.2.2.2.2.2.2.2.2.2.2.2.2.2.2.2.2.2.2.2.2.2.1
theorem P7.b {h : AH} {a : Int} (x : P7 h a) : a + 10 < am_n h := x.2.2.2.2.2.2.2.2.2.2.2.2.2.2.2.2.2.2.2.2.2.2.2.2.2.2.2.2.2.2.2.2
theorem P7.fr {h h1 : AH} {a lo n : Int} (x : P7 h a) (fr : Fr lo n h h1) (ap : a + 11 ≤ lo ∨ lo + n ≤ a) : P7 h1 a := by
  obtain ⟨a1, a2, a3, a4, a5⟩ := fr
  have hp := x.p
  have hb := x.b
  refine ⟨?_, ?_, ?_, ?_, ?_, ?_, ?_, ?_, ?_, ?_, ?_, ?_, ?_, ?_, ?_, ?_, ?_, ?_, ?_, ?_, ?_, ?_, ?_, ?_, ?_, ?_, ?_, ?_, ?_, ?_, ?_, ?_, ?_⟩
  · rw [(a4 a (by omega)).1]; exact x.t
  · rw [a5 a (by omega) (by omega)]; exact x.f1
  · rw [(a4 (a + 1) (by omega)).1]; exact x.t1
  · rw [(a4 (a + 1) (by omega)).2]; exact x.l1
  · rw [a5 a (by omega) (by omega)]; exact x.f3
  · rw [(a4 (a + 2) (by omega)).1]; exact x.t2
  · rw [(a4 (a + 2) (by omega)).2]; exact x.l2
  · rw [a5 a (by omega) (by omega)]; exact x.f4
  · rw [(a4 (a + 3) (by omega)).1]; exact x.t3
  · rw [(a4 (a + 3) (by omega)).2]; exact x.l3
  · rw [a5 a (by omega) (by omega)]; exact x.f5
  · rw [(a4 (a + 4) (by omega)).1]; exact x.t4
  · rw [(a4 (a + 4) (by omega)).2]; exact x.l4
  · rw [a5 a (by omega) (by omega)]; exact x.f7
  · rw [(a4 (a + 5) (by omega)).1]; exact x.t5
  · rw [(a4 (a + 5) (by omega)).2]; exact x.l5
  · rw [a5 a (by omega) (by omega)]; exact x.f11
  · rw [(a4 (a + 6) (by omega)).1]; exact x.t6
  · rw [(a4 (a + 6) (by omega)).2]; exact x.l6
  · rw [a5 a (by omega) (by omega)]; exact x.f12
  · rw [(a4 (a + 7) (by omega)).1]; exact x.t7
  · rw [(a4 (a + 7) (by omega)).2]; exact x.l7
  · rw [a5 a (by omega) (by omega)]; exact x.f13
  · rw [(a4 (a + 8) (by omega)).1]; exact x.t8
  · rw [(a4 (a + 8) (by omega)).2]; exact x.l8
  · rw [a5 a (by omega) (by omega)]; exact x.f14
  · rw [(a4 (a + 9) (by omega)).1]; exact x.t9
  · rw [(a4 (a + 9) (by omega)).2]; exact x.l9
  · rw [a5 a (by omega) (by omega)]; exact x.f16
  · rw [(a4 (a + 10) (by omega)).1]; exact x.t10
  · rw [(a4 (a + 10) (by omega)).2]; exact x.l10
  · exact hp
  · omega
theorem P7.w {h : AH} {a b i v : Int} (x : P7 h a) (ap : b ≠ a ∨ (i ≠ 1 ∧ i ≠ 3 ∧ i ≠ 4 ∧ i ≠ 5 ∧ i ≠ 7 ∧ i ≠ 11 ∧ i ≠ 12 ∧ i ≠ 13 ∧ i ≠ 14 ∧ i ≠ 16)) : P7 (am_w h b i v) a := by
  refine ⟨x.t, ?_, x.t1, x.l1, ?_, x.t2, x.l2, ?_, x.t3, x.l3, ?_, x.t4, x.l4, ?_, x.t5, x.l5, ?_, x.t6, x.l6, ?_, x.t7, x.l7, ?_, x.t8, x.l8, ?_, x.t9, x.l9, ?_, x.t10, x.l10, x.p, x.b⟩
  · rw [am_m_w, if_neg (by omega)]; exact x.f1
  · rw [am_m_w, if_neg (by omega)]; exact x.f3
  · rw [am_m_w, if_neg (by omega)]; exact x.f4
  · rw [am_m_w, if_neg (by omega)]; exact x.f5
  · rw [am_m_w, if_neg (by omega)]; exact x.f7
  · rw [am_m_w, if_neg (by omega)]; exact x.f11
  · rw [am_m_w, if_neg (by omega)]; exact x.f12
  · rw [am_m_w, if_neg (by omega)]; exact x.f13
  · rw [am_m_w, if_neg (by omega)]; exact x.f14
  · rw [am_m_w, if_neg (by omega)]; exact x.f16
def M9 (h : AH) (a q s e : Int) : Prop := am_t h a = 9 ∧ am_m h a 12 = q ∧ am_m h a 14 = s ∧ am_m h a 15 = e ∧ am_m h a 1 = a + 1 ∧ am_t h (a + 1) = 20 ∧ am_l h (a + 1) = 2000 ∧ am_m h a 5 = a + 2 ∧ am_t h (a + 2) = 20 ∧ am_l h (a + 2) = 401 ∧ am_m h a 6 = a + 3 ∧ am_t h (a + 3) = 20 ∧ am_l h (a + 3) = 401 ∧ am_m h a 7 = a + 4 ∧ am_t h (a + 4) = 20 ∧ am_l h (a + 4) = 401 ∧ am_m h a 8 = a + 5 ∧ am_t h (a + 5) = 20 ∧ am_l h (a + 5) = 401 ∧ am_m h a 9 = a + 6 ∧ am_t h (a + 6) = 20 ∧ am_l h (a + 6) = 401 ∧ 0 ≤ a ∧ a + 6 < am_n h
theorem M9.t {h : AH} {a q s e : Int} (x : M9 h a q s e) : am_t h a = 9 := x.1
theorem M9.f12 {h : AH} {a q s e : Int} (x : M9 h a q s e) : am_m h a 12 = q := x.2.1
theorem M9.f14 {h : AH} {a q s e : Int} (x : M9 h a q s e) : am_m h a 14 = s := x.2.2.1
theorem M9.f15 {h : AH} {a q s e : Int} (x : M9 h a q s e) : am_m h a 15 = e := x.2.2.2.1
theorem M9.f1 {h : AH} {a q s e : Int} (x : M9 h a q s e) : am_m h a 1 = a + 1 := x.2.2.2.2.1
theorem M9.t1 {h : AH} {a q s e : Int} (x : M9 h a q s e) : am_t h (a + 1) = 20 := x.2.2.2.2.2.1
theorem M9.l1 {h : AH} {a q s e : Int} (x : M9 h a q s e) : am_l h (a + 1) = 2000 := x.2.2.2.2.2.2.1
theorem M9.f5 {h : AH} {a q s e : Int} (x : M9 h a q s e) : am_m h a 5 = a + 2 := x.2.2.2.2.2.2.2.1
theorem M9.t2 {h : AH} {a q s e : Int} (x : M9 h a q s e) : am_t h (a + 2) = 20 := x.2.2.2.2.2.2.2.2.1
theorem M9.l2 {h : AH} {a q s e : Int} (x : M9 h a q s e) : am_l h (a + 2) = 401 := x.2.2.2.2.2.2.2.2.2.1
theorem M9.f6 {h : AH} {a q s e : Int} (x : M9 h a q s e) : am_m h a 6 = a + 3 := x.2.2.2.2.2.2.2.2.2.2.1
theorem M9.t3 {h : AH} {a q s e : Int} (x : M9 h a q s e) : am_t h (a + 3) = 20 := x.2.2.2.2.2.2.2.2.2.2.2.1
theorem M9.l3 {h : AH} {a q s e : Int} (x : M9 h a q s e) : am_l h (a + 3) = 401 := x.2.2.2.2.2.2.2.2.2.2.2.2.1
theorem M9.f7 {h : AH} {a q s e : Int} (x : M9 h a q s e) : am_m h a 7 = a + 4 := x.2.2.2.2.2.2.2.2.2.2.2.2.2.1
theorem M9.t4 {h : AH} {a q s e : Int} (x : M9 h a q s e) : am_t h (a + 4) = 20 := x.2.2.2.2.2.2.2.2.2.2.2.2.2.2.1
theorem M9.l4 {h : AH} {a q s e : Int} (x : M9 h a q s e) : am_l h (a + 4) = 401 := x.2.2.2.2.2.2.2.2.2.2.2.2.2.2.2.1
theorem M9.f8 {h : AH} {a q s e : Int} (x : M9 h a q s e) : am_m h a 8 = a + 5 := x.2.2.2.2.2.2.2.2.2.2.2.2.2.2.2.2.1
theorem M9.t5 {h : AH} {a q s e : Int} (x : M9 h a q s e) : am_t h (a + 5) = 20 := x.2.2.2.2.2.2.2.2.2.2.2.2.2.2.2.2.2.1
theorem M9.l5 {h : AH} {a q s e : Int} (x : M9 h a q s e) : am_l h (a + 5) = 401 := x.2.2.2.2.2.2.2.2.2.2.2.2.2.2.2.2.2.2.1
theorem M9.f9 {h : AH} {a q s e : Int} (x : M9 h a q s e) : am_m h a 9 = a + 6 := x.2.2.2.2.2.2.2.2.2.2.2.2.2.2.2.2.2.2.2.1
theorem M9.t6 {h : AH} {a q s e : Int} (x : M9 h a q s e) : am_t h (a + 6) = 20 := x.2.2.2.2.2.2.2.2.2.2.2.2.2.2.2.2.2.2.2.2.1
theorem M9.l6 {h : AH} {a q s e : Int} (x : M9 h a q s e) : am_l h (a + 6) = 401 := x.2.2.2.2.2.2.2.2.2.2.2.2.2.2.2.2.2.2.2.2.2.1
theorem M9.p {h : AH} {a q s e : Int} (x : M9 h a q s e) : 0 ≤ a := x.2.2.2.2.2.2.2.2.2.2.2.2.2.2.2.2.2.2.2.2.2.2.1
theorem M9.b {h : AH} {a q s e : Int} (x : M9 h a q s e) : a + 6 < am_n h := x.2.2.2.2.2.2.2.2.2.2.2.2.2.2.2.2.2.2.2.2.2.2.2
theorem M9.fr {h h1 : AH} {a q s e lo n : Int} (x : M9 h a q s e) (fr : Fr lo n h h1) (ap : a + 7 ≤ lo ∨ lo + n ≤ a) : M9 h1 a q s e := by
  obtain ⟨a1, a2, a3, a4, a5⟩ := fr
  have hp := x.p
  have hb := x.b
  refine ⟨?_, ?_, ?_, ?_, ?_, ?_, ?_, ?_, ?_, ?_, ?_, ?_, ?_, ?_, ?_, ?_, ?_, ?_, ?_, ?_, ?_, ?_, ?_, ?_⟩
  · rw [(a4 a (by omega)).1]; exact x.t
  · rw [a5 a (by omega) (by omega)]; exact x.f12
  · rw [a5 a (by omega) (by omega)]; exact x.f14
  · rw [a5 a (by omega) (by omega)]; exact x.f15
  · rw [a5 a (by omega) (by omega)]; exact x.f1
  · rw [(a4 (a + 1) (by omega)).1]; exact x.t1
  · rw [(a4 (a + 1) (by omega)).2]; exact x.l1
  · rw [a5 a (by omega) (by omega)]; exact x.f5
  · rw [(a4 (a + 2) (by omega)).1]; exact x.t2
  · rw [(a4 (a + 2) (by omega)).2]; exact x.l2
  · rw [a5 a (by omega) (by omega)]; exact x.f6
  · rw [(a4 (a + 3) (by omega)).1]; exact x.t3
  · rw [(a4 (a + 3) (by omega)).2]; exact x.l3
  · rw [a5 a (by omega) (by omega)]; exact x.f7
  · rw [(a4 (a + 4) (by omega)).1]; exact x.t4
  · rw [(a4 (a + 4) (by omega)).2]; exact x.l4
  · rw [a5 a (by omega) (by omega)]; exact x.f8
  · rw [(a4 (a + 5) (by omega)).1]; exact x.t5
  · rw [(a4 (a + 5) (by omega)).2]; exact x.l5
  · rw [a5 a (by omega) (by omega)]; exact x.f9
  · rw [(a4 (a + 6) (by omega)).1]; exact x.t6
  · rw [(a4 (a + 6) (by omega)).2]; exact x.l6
  · exact hp
  · omega
theorem M9.w {h : AH} {a q s e b i v : Int} (x : M9 h a q s e) (ap : b ≠ a ∨ (i ≠ 12 ∧ i ≠ 14 ∧ i ≠ 15 ∧ i ≠ 1 ∧ i ≠ 5 ∧ i ≠ 6 ∧ i ≠ 7 ∧ i ≠ 8 ∧ i ≠ 9)) : M9 (am_w h b i v) a q s e := by
  refine ⟨x.t, ?_, ?_, ?_, ?_, x.t1, x.l1, ?_, x.t2, x.l2, ?_, x.t3, x.l3, ?_, x.t4, x.l4, ?_, x.t5, x.l5, ?_, x.t6, x.l6, x.p, x.b⟩
  · rw [am_m_w, if_neg (by omega)]; exact x.f12
  · rw [am_m_w, if_neg (by omega)]; exact x.f14
  · rw [am_m_w, if_neg (by omega)]; exact x.f15
  · rw [am_m_w, if_neg (by omega)]; exact x.f1
  · rw [am_m_w, if_neg (by omega)]; exact x.f5
  · rw [am_m_w, if_neg (by omega)]; exact x.f6
  · rw [am_m_w, if_neg (by omega)]; exact x.f7
  · rw [am_m_w, if_neg (by omega)]; exact x.f8
  · rw [am_m_w, if_neg (by omega)]; exact x.f9
