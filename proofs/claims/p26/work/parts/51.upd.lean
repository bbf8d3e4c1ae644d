/-! ===== the state under writes that it speaks of ===== -/
def su (ss : TT) (k : Nat) (i x : Int) : TT := fun k' i' => if k' = k ∧ i' = i then x else ss k' i'
theorem su_ne {ss : TT} {k k' : Nat} {i i' x : Int} (hn : ¬ (k' = k ∧ i' = i)) : su ss k i x k' i' = ss k' i' := if_neg hn
theorem su_eq {ss : TT} {k : Nat} {i x : Int} : su ss k i x k i = x := if_pos ⟨rfl, rfl⟩
theorem CC.u0 {h : AH} {a q v : Int} {pp ss : TT} (c : CC h a q pp ss) (hs : SI pp (su ss 0 0 v)) : CC (am_w h (a) 0 v) a q pp (su ss 0 0 v) := by
  obtain ⟨x1, x2, x3, x4, x5, x6⟩ := c
  obtain ⟨y1, y2, y3, y4, y5, y6⟩ := x3
  have ee : ∀ b' i', ¬ (b' = a ∧ i' = 0) → am_m (am_w h (a) 0 v) b' i' = am_m h b' i' := fun b' i' hn => by rw [am_m_w, if_neg hn]
  have se : ∀ k' i', ¬ (k' = 0 ∧ i' = 0) → su ss 0 0 v k' i' = ss k' i' := fun k' i' hn => su_ne hn
  have e1 : am_m (am_w h (a) 0 v) (a) 0 = su ss 0 0 v 0 0 := by rw [am_m_w, if_pos ⟨rfl, rfl⟩, su_eq]
  have hf : Fr a 9 h (am_w h (a) 0 v) := Fr.rf.w (by omega) (by omega)
  refine ⟨x1.w (by omega), x2.fr hf (by omega), ⟨e1, (ee _ _ (by omega)).trans (y2.trans (se _ _ (by omega)).symm), (ee _ _ (by omega)).trans (y3.trans (se _ _ (by omega)).symm), (ee _ _ (by omega)).trans (y4.trans (se _ _ (by omega)).symm), fun v2 z1 z2 => ⟨?_, ?_⟩, fun p z1 z2 => ?_⟩, x4, hs, x6⟩
  · exact (ee _ _ (by omega)).trans ((y5 v2 z1 z2).1.trans (se _ _ (by omega)).symm)
  · exact (ee _ _ (by omega)).trans ((y5 v2 z1 z2).2.trans (se _ _ (by omega)).symm)
  · obtain ⟨w1, w2, w3, w4, w5⟩ := y6 p z1 z2
    have e5 := ee (a + 5) p (by omega)
    refine ⟨(ee _ _ (by omega)).trans (w1.trans (se _ _ (by omega)).symm), (ee _ _ (by omega)).trans (w2.trans (se _ _ (by omega)).symm), (ee _ _ (by omega)).trans (w3.trans (se _ _ (by omega)).symm), by rw [e5]; exact w4, fun v3 z3 z4 => by rw [e5, se _ _ (by omega)]; exact w5 v3 z3 z4⟩
theorem CC.u1 {h : AH} {a q v : Int} {pp ss : TT} (c : CC h a q pp ss) (hs : SI pp (su ss 1 0 v)) : CC (am_w h (a) 1 v) a q pp (su ss 1 0 v) := by
  obtain ⟨x1, x2, x3, x4, x5, x6⟩ := c
  obtain ⟨y1, y2, y3, y4, y5, y6⟩ := x3
  have ee : ∀ b' i', ¬ (b' = a ∧ i' = 1) → am_m (am_w h (a) 1 v) b' i' = am_m h b' i' := fun b' i' hn => by rw [am_m_w, if_neg hn]
  have se : ∀ k' i', ¬ (k' = 1 ∧ i' = 0) → su ss 1 0 v k' i' = ss k' i' := fun k' i' hn => su_ne hn
  have e1 : am_m (am_w h (a) 1 v) (a) 1 = su ss 1 0 v 1 0 := by rw [am_m_w, if_pos ⟨rfl, rfl⟩, su_eq]
  have hf : Fr a 9 h (am_w h (a) 1 v) := Fr.rf.w (by omega) (by omega)
  refine ⟨x1.w (by omega), x2.fr hf (by omega), ⟨(ee _ _ (by omega)).trans (y1.trans (se _ _ (by omega)).symm), e1, (ee _ _ (by omega)).trans (y3.trans (se _ _ (by omega)).symm), (ee _ _ (by omega)).trans (y4.trans (se _ _ (by omega)).symm), fun v2 z1 z2 => ⟨?_, ?_⟩, fun p z1 z2 => ?_⟩, x4, hs, x6⟩
  · exact (ee _ _ (by omega)).trans ((y5 v2 z1 z2).1.trans (se _ _ (by omega)).symm)
  · exact (ee _ _ (by omega)).trans ((y5 v2 z1 z2).2.trans (se _ _ (by omega)).symm)
  · obtain ⟨w1, w2, w3, w4, w5⟩ := y6 p z1 z2
    have e5 := ee (a + 5) p (by omega)
    refine ⟨(ee _ _ (by omega)).trans (w1.trans (se _ _ (by omega)).symm), (ee _ _ (by omega)).trans (w2.trans (se _ _ (by omega)).symm), (ee _ _ (by omega)).trans (w3.trans (se _ _ (by omega)).symm), by rw [e5]; exact w4, fun v3 z3 z4 => by rw [e5, se _ _ (by omega)]; exact w5 v3 z3 z4⟩
theorem CC.u2 {h : AH} {a q v : Int} {pp ss : TT} (c : CC h a q pp ss) (hs : SI pp (su ss 2 0 v)) : CC (am_w h (a) 6 v) a q pp (su ss 2 0 v) := by
  obtain ⟨x1, x2, x3, x4, x5, x6⟩ := c
  obtain ⟨y1, y2, y3, y4, y5, y6⟩ := x3
  have ee : ∀ b' i', ¬ (b' = a ∧ i' = 6) → am_m (am_w h (a) 6 v) b' i' = am_m h b' i' := fun b' i' hn => by rw [am_m_w, if_neg hn]
  have se : ∀ k' i', ¬ (k' = 2 ∧ i' = 0) → su ss 2 0 v k' i' = ss k' i' := fun k' i' hn => su_ne hn
  have e1 : am_m (am_w h (a) 6 v) (a) 6 = su ss 2 0 v 2 0 := by rw [am_m_w, if_pos ⟨rfl, rfl⟩, su_eq]
  have hf : Fr a 9 h (am_w h (a) 6 v) := Fr.rf.w (by omega) (by omega)
  refine ⟨x1.w (by omega), x2.fr hf (by omega), ⟨(ee _ _ (by omega)).trans (y1.trans (se _ _ (by omega)).symm), (ee _ _ (by omega)).trans (y2.trans (se _ _ (by omega)).symm), e1, (ee _ _ (by omega)).trans (y4.trans (se _ _ (by omega)).symm), fun v2 z1 z2 => ⟨?_, ?_⟩, fun p z1 z2 => ?_⟩, x4, hs, x6⟩
  · exact (ee _ _ (by omega)).trans ((y5 v2 z1 z2).1.trans (se _ _ (by omega)).symm)
  · exact (ee _ _ (by omega)).trans ((y5 v2 z1 z2).2.trans (se _ _ (by omega)).symm)
  · obtain ⟨w1, w2, w3, w4, w5⟩ := y6 p z1 z2
    have e5 := ee (a + 5) p (by omega)
    refine ⟨(ee _ _ (by omega)).trans (w1.trans (se _ _ (by omega)).symm), (ee _ _ (by omega)).trans (w2.trans (se _ _ (by omega)).symm), (ee _ _ (by omega)).trans (w3.trans (se _ _ (by omega)).symm), by rw [e5]; exact w4, fun v3 z3 z4 => by rw [e5, se _ _ (by omega)]; exact w5 v3 z3 z4⟩
theorem CC.u3 {h : AH} {a q v : Int} {pp ss : TT} (c : CC h a q pp ss) (hs : SI pp (su ss 3 0 v)) : CC (am_w h (a) 7 v) a q pp (su ss 3 0 v) := by
  obtain ⟨x1, x2, x3, x4, x5, x6⟩ := c
  obtain ⟨y1, y2, y3, y4, y5, y6⟩ := x3
  have ee : ∀ b' i', ¬ (b' = a ∧ i' = 7) → am_m (am_w h (a) 7 v) b' i' = am_m h b' i' := fun b' i' hn => by rw [am_m_w, if_neg hn]
  have se : ∀ k' i', ¬ (k' = 3 ∧ i' = 0) → su ss 3 0 v k' i' = ss k' i' := fun k' i' hn => su_ne hn
  have e1 : am_m (am_w h (a) 7 v) (a) 7 = su ss 3 0 v 3 0 := by rw [am_m_w, if_pos ⟨rfl, rfl⟩, su_eq]
  have hf : Fr a 9 h (am_w h (a) 7 v) := Fr.rf.w (by omega) (by omega)
  refine ⟨x1.w (by omega), x2.fr hf (by omega), ⟨(ee _ _ (by omega)).trans (y1.trans (se _ _ (by omega)).symm), (ee _ _ (by omega)).trans (y2.trans (se _ _ (by omega)).symm), (ee _ _ (by omega)).trans (y3.trans (se _ _ (by omega)).symm), e1, fun v2 z1 z2 => ⟨?_, ?_⟩, fun p z1 z2 => ?_⟩, x4, hs, x6⟩
  · exact (ee _ _ (by omega)).trans ((y5 v2 z1 z2).1.trans (se _ _ (by omega)).symm)
  · exact (ee _ _ (by omega)).trans ((y5 v2 z1 z2).2.trans (se _ _ (by omega)).symm)
  · obtain ⟨w1, w2, w3, w4, w5⟩ := y6 p z1 z2
    have e5 := ee (a + 5) p (by omega)
    refine ⟨(ee _ _ (by omega)).trans (w1.trans (se _ _ (by omega)).symm), (ee _ _ (by omega)).trans (w2.trans (se _ _ (by omega)).symm), (ee _ _ (by omega)).trans (w3.trans (se _ _ (by omega)).symm), by rw [e5]; exact w4, fun v3 z3 z4 => by rw [e5, se _ _ (by omega)]; exact w5 v3 z3 z4⟩
theorem CC.u4 {h : AH} {a q i v : Int} {pp ss : TT} (c : CC h a q pp ss) (hs : SI pp (su ss 4 i v)) : CC (am_w h (a + 1) i v) a q pp (su ss 4 i v) := by
  obtain ⟨x1, x2, x3, x4, x5, x6⟩ := c
  obtain ⟨y1, y2, y3, y4, y5, y6⟩ := x3
  have ee : ∀ b' i', ¬ (b' = a + 1 ∧ i' = i) → am_m (am_w h (a + 1) i v) b' i' = am_m h b' i' := fun b' i' hn => by rw [am_m_w, if_neg hn]
  have se : ∀ k' i', ¬ (k' = 4 ∧ i' = i) → su ss 4 i v k' i' = ss k' i' := fun k' i' hn => su_ne hn
  have e1 : am_m (am_w h (a + 1) i v) (a + 1) i = su ss 4 i v 4 i := by rw [am_m_w, if_pos ⟨rfl, rfl⟩, su_eq]
  have hf : Fr a 9 h (am_w h (a + 1) i v) := Fr.rf.w (by omega) (by omega)
  refine ⟨x1.w (by omega), x2.fr hf (by omega), ⟨(ee _ _ (by omega)).trans (y1.trans (se _ _ (by omega)).symm), (ee _ _ (by omega)).trans (y2.trans (se _ _ (by omega)).symm), (ee _ _ (by omega)).trans (y3.trans (se _ _ (by omega)).symm), (ee _ _ (by omega)).trans (y4.trans (se _ _ (by omega)).symm), fun v2 z1 z2 => ⟨?_, ?_⟩, fun p z1 z2 => ?_⟩, x4, hs, x6⟩
  · by_cases hz : v2 = i
    · subst hz; exact e1
    · exact (ee _ _ (by omega)).trans ((y5 v2 z1 z2).1.trans (se _ _ (by omega)).symm)
  · exact (ee _ _ (by omega)).trans ((y5 v2 z1 z2).2.trans (se _ _ (by omega)).symm)
  · obtain ⟨w1, w2, w3, w4, w5⟩ := y6 p z1 z2
    have e5 := ee (a + 5) p (by omega)
    refine ⟨(ee _ _ (by omega)).trans (w1.trans (se _ _ (by omega)).symm), (ee _ _ (by omega)).trans (w2.trans (se _ _ (by omega)).symm), (ee _ _ (by omega)).trans (w3.trans (se _ _ (by omega)).symm), by rw [e5]; exact w4, fun v3 z3 z4 => by rw [e5, se _ _ (by omega)]; exact w5 v3 z3 z4⟩
theorem CC.u5 {h : AH} {a q i v : Int} {pp ss : TT} (c : CC h a q pp ss) (hs : SI pp (su ss 5 i v)) : CC (am_w h (a + 3) i v) a q pp (su ss 5 i v) := by
  obtain ⟨x1, x2, x3, x4, x5, x6⟩ := c
  obtain ⟨y1, y2, y3, y4, y5, y6⟩ := x3
  have ee : ∀ b' i', ¬ (b' = a + 3 ∧ i' = i) → am_m (am_w h (a + 3) i v) b' i' = am_m h b' i' := fun b' i' hn => by rw [am_m_w, if_neg hn]
  have se : ∀ k' i', ¬ (k' = 5 ∧ i' = i) → su ss 5 i v k' i' = ss k' i' := fun k' i' hn => su_ne hn
  have e1 : am_m (am_w h (a + 3) i v) (a + 3) i = su ss 5 i v 5 i := by rw [am_m_w, if_pos ⟨rfl, rfl⟩, su_eq]
  have hf : Fr a 9 h (am_w h (a + 3) i v) := Fr.rf.w (by omega) (by omega)
  refine ⟨x1.w (by omega), x2.fr hf (by omega), ⟨(ee _ _ (by omega)).trans (y1.trans (se _ _ (by omega)).symm), (ee _ _ (by omega)).trans (y2.trans (se _ _ (by omega)).symm), (ee _ _ (by omega)).trans (y3.trans (se _ _ (by omega)).symm), (ee _ _ (by omega)).trans (y4.trans (se _ _ (by omega)).symm), fun v2 z1 z2 => ⟨?_, ?_⟩, fun p z1 z2 => ?_⟩, x4, hs, x6⟩
  · exact (ee _ _ (by omega)).trans ((y5 v2 z1 z2).1.trans (se _ _ (by omega)).symm)
  · by_cases hz : v2 = i
    · subst hz; exact e1
    · exact (ee _ _ (by omega)).trans ((y5 v2 z1 z2).2.trans (se _ _ (by omega)).symm)
  · obtain ⟨w1, w2, w3, w4, w5⟩ := y6 p z1 z2
    have e5 := ee (a + 5) p (by omega)
    refine ⟨(ee _ _ (by omega)).trans (w1.trans (se _ _ (by omega)).symm), (ee _ _ (by omega)).trans (w2.trans (se _ _ (by omega)).symm), (ee _ _ (by omega)).trans (w3.trans (se _ _ (by omega)).symm), by rw [e5]; exact w4, fun v3 z3 z4 => by rw [e5, se _ _ (by omega)]; exact w5 v3 z3 z4⟩
theorem CC.u6 {h : AH} {a q i v : Int} {pp ss : TT} (c : CC h a q pp ss) (hs : SI pp (su ss 6 i v)) : CC (am_w h (a + 4) i v) a q pp (su ss 6 i v) := by
  obtain ⟨x1, x2, x3, x4, x5, x6⟩ := c
  obtain ⟨y1, y2, y3, y4, y5, y6⟩ := x3
  have ee : ∀ b' i', ¬ (b' = a + 4 ∧ i' = i) → am_m (am_w h (a + 4) i v) b' i' = am_m h b' i' := fun b' i' hn => by rw [am_m_w, if_neg hn]
  have se : ∀ k' i', ¬ (k' = 6 ∧ i' = i) → su ss 6 i v k' i' = ss k' i' := fun k' i' hn => su_ne hn
  have e1 : am_m (am_w h (a + 4) i v) (a + 4) i = su ss 6 i v 6 i := by rw [am_m_w, if_pos ⟨rfl, rfl⟩, su_eq]
  have hf : Fr a 9 h (am_w h (a + 4) i v) := Fr.rf.w (by omega) (by omega)
  refine ⟨x1.w (by omega), x2.fr hf (by omega), ⟨(ee _ _ (by omega)).trans (y1.trans (se _ _ (by omega)).symm), (ee _ _ (by omega)).trans (y2.trans (se _ _ (by omega)).symm), (ee _ _ (by omega)).trans (y3.trans (se _ _ (by omega)).symm), (ee _ _ (by omega)).trans (y4.trans (se _ _ (by omega)).symm), fun v2 z1 z2 => ⟨?_, ?_⟩, fun p z1 z2 => ?_⟩, x4, hs, x6⟩
  · exact (ee _ _ (by omega)).trans ((y5 v2 z1 z2).1.trans (se _ _ (by omega)).symm)
  · exact (ee _ _ (by omega)).trans ((y5 v2 z1 z2).2.trans (se _ _ (by omega)).symm)
  · obtain ⟨w1, w2, w3, w4, w5⟩ := y6 p z1 z2
    have e5 := ee (a + 5) p (by omega)
    refine ⟨?_, (ee _ _ (by omega)).trans (w2.trans (se _ _ (by omega)).symm), (ee _ _ (by omega)).trans (w3.trans (se _ _ (by omega)).symm), by rw [e5]; exact w4, fun v3 z3 z4 => by rw [e5, se _ _ (by omega)]; exact w5 v3 z3 z4⟩
    by_cases hz : p = i
    · subst hz; exact e1
    · exact (ee _ _ (by omega)).trans (w1.trans (se _ _ (by omega)).symm)
theorem CC.u7 {h : AH} {a q i v : Int} {pp ss : TT} (c : CC h a q pp ss) (hs : SI pp (su ss 7 i v)) : CC (am_w h (a + 2) i v) a q pp (su ss 7 i v) := by
  obtain ⟨x1, x2, x3, x4, x5, x6⟩ := c
  obtain ⟨y1, y2, y3, y4, y5, y6⟩ := x3
  have ee : ∀ b' i', ¬ (b' = a + 2 ∧ i' = i) → am_m (am_w h (a + 2) i v) b' i' = am_m h b' i' := fun b' i' hn => by rw [am_m_w, if_neg hn]
  have se : ∀ k' i', ¬ (k' = 7 ∧ i' = i) → su ss 7 i v k' i' = ss k' i' := fun k' i' hn => su_ne hn
  have e1 : am_m (am_w h (a + 2) i v) (a + 2) i = su ss 7 i v 7 i := by rw [am_m_w, if_pos ⟨rfl, rfl⟩, su_eq]
  have hf : Fr a 9 h (am_w h (a + 2) i v) := Fr.rf.w (by omega) (by omega)
  refine ⟨x1.w (by omega), x2.fr hf (by omega), ⟨(ee _ _ (by omega)).trans (y1.trans (se _ _ (by omega)).symm), (ee _ _ (by omega)).trans (y2.trans (se _ _ (by omega)).symm), (ee _ _ (by omega)).trans (y3.trans (se _ _ (by omega)).symm), (ee _ _ (by omega)).trans (y4.trans (se _ _ (by omega)).symm), fun v2 z1 z2 => ⟨?_, ?_⟩, fun p z1 z2 => ?_⟩, x4, hs, x6⟩
  · exact (ee _ _ (by omega)).trans ((y5 v2 z1 z2).1.trans (se _ _ (by omega)).symm)
  · exact (ee _ _ (by omega)).trans ((y5 v2 z1 z2).2.trans (se _ _ (by omega)).symm)
  · obtain ⟨w1, w2, w3, w4, w5⟩ := y6 p z1 z2
    have e5 := ee (a + 5) p (by omega)
    refine ⟨(ee _ _ (by omega)).trans (w1.trans (se _ _ (by omega)).symm), ?_, (ee _ _ (by omega)).trans (w3.trans (se _ _ (by omega)).symm), by rw [e5]; exact w4, fun v3 z3 z4 => by rw [e5, se _ _ (by omega)]; exact w5 v3 z3 z4⟩
    by_cases hz : p = i
    · subst hz; exact e1
    · exact (ee _ _ (by omega)).trans (w2.trans (se _ _ (by omega)).symm)
theorem CC.u8 {h : AH} {a q i v : Int} {pp ss : TT} (c : CC h a q pp ss) (hs : SI pp (su ss 8 i v)) : CC (am_w h (a + 6) i v) a q pp (su ss 8 i v) := by
  obtain ⟨x1, x2, x3, x4, x5, x6⟩ := c
  obtain ⟨y1, y2, y3, y4, y5, y6⟩ := x3
  have ee : ∀ b' i', ¬ (b' = a + 6 ∧ i' = i) → am_m (am_w h (a + 6) i v) b' i' = am_m h b' i' := fun b' i' hn => by rw [am_m_w, if_neg hn]
  have se : ∀ k' i', ¬ (k' = 8 ∧ i' = i) → su ss 8 i v k' i' = ss k' i' := fun k' i' hn => su_ne hn
  have e1 : am_m (am_w h (a + 6) i v) (a + 6) i = su ss 8 i v 8 i := by rw [am_m_w, if_pos ⟨rfl, rfl⟩, su_eq]
  have hf : Fr a 9 h (am_w h (a + 6) i v) := Fr.rf.w (by omega) (by omega)
  refine ⟨x1.w (by omega), x2.fr hf (by omega), ⟨(ee _ _ (by omega)).trans (y1.trans (se _ _ (by omega)).symm), (ee _ _ (by omega)).trans (y2.trans (se _ _ (by omega)).symm), (ee _ _ (by omega)).trans (y3.trans (se _ _ (by omega)).symm), (ee _ _ (by omega)).trans (y4.trans (se _ _ (by omega)).symm), fun v2 z1 z2 => ⟨?_, ?_⟩, fun p z1 z2 => ?_⟩, x4, hs, x6⟩
  · exact (ee _ _ (by omega)).trans ((y5 v2 z1 z2).1.trans (se _ _ (by omega)).symm)
  · exact (ee _ _ (by omega)).trans ((y5 v2 z1 z2).2.trans (se _ _ (by omega)).symm)
  · obtain ⟨w1, w2, w3, w4, w5⟩ := y6 p z1 z2
    have e5 := ee (a + 5) p (by omega)
    refine ⟨(ee _ _ (by omega)).trans (w1.trans (se _ _ (by omega)).symm), (ee _ _ (by omega)).trans (w2.trans (se _ _ (by omega)).symm), ?_, by rw [e5]; exact w4, fun v3 z3 z4 => by rw [e5, se _ _ (by omega)]; exact w5 v3 z3 z4⟩
    by_cases hz : p = i
    · subst hz; exact e1
    · exact (ee _ _ (by omega)).trans (w3.trans (se _ _ (by omega)).symm)
/-! what is so of every state, under updates -/
theorem SI.u0 {pp ss : TT} {v : Int} (x : SI pp ss) (hv : 0 ≤ v ∧ v < 2000000000) (hb : ∀ p, 0 ≤ p → p < pp 1 0 → ss 7 p ≤ v) : SI pp (su ss 0 0 v) := by
  have se : ∀ k' i', ¬ (k' = 0 ∧ i' = 0) → su ss 0 0 v k' i' = ss k' i' := fun k' i' hn => su_ne hn
  have s1 : su ss 0 0 v 0 0 = v := su_eq
  obtain ⟨x1, x2, x3, x4, x5, x6, x7⟩ := x
  refine ⟨by rw [s1]; exact hv, by rw [se _ _ (by omega)]; exact x2, by rw [se _ _ (by omega)]; exact x3, fun v2 z1 z2 => ?_, fun p z1 z2 => ?_, fun i2 => by rw [se _ _ (by omega)]; exact x6 i2, fun v2 p z1 z2 z3 z4 z5 => by rw [se _ _ (by omega)]; exact x7 v2 p z1 z2 z3 z4 z5⟩
  · rw [se _ _ (by omega)]; exact x4 v2 z1 z2
  · obtain ⟨w1, w2, w3⟩ := x5 p z1 z2
    refine ⟨by rw [se 6 _ (by omega)]; exact w1, ?_, by rw [se 8 _ (by omega)]; exact w3⟩
    rw [se 7 _ (by omega), s1]
    exact ⟨w2.1, hb p z1 z2⟩
theorem SI.u2 {pp ss : TT} {v : Int} (x : SI pp ss) (hv : 0 ≤ v ∧ v ≤ 9999) : SI pp (su ss 2 0 v) := by
  have se : ∀ k' i', ¬ (k' = 2 ∧ i' = 0) → su ss 2 0 v k' i' = ss k' i' := fun k' i' hn => su_ne hn
  have s1 : su ss 2 0 v 2 0 = v := su_eq
  obtain ⟨x1, x2, x3, x4, x5, x6, x7⟩ := x
  refine ⟨by rw [se _ _ (by omega)]; exact x1, by rw [se _ _ (by omega)]; exact x2, by rw [s1]; exact hv, fun v2 z1 z2 => ?_, fun p z1 z2 => ?_, fun i2 => by rw [se _ _ (by omega)]; exact x6 i2, fun v2 p z1 z2 z3 z4 z5 => by rw [se _ _ (by omega)]; exact x7 v2 p z1 z2 z3 z4 z5⟩
  · rw [se _ _ (by omega)]; exact x4 v2 z1 z2
  · obtain ⟨w1, w2, w3⟩ := x5 p z1 z2
    exact ⟨by rw [se 6 _ (by omega)]; exact w1, by rw [se 7 _ (by omega), se 0 _ (by omega)]; exact w2, by rw [se 8 _ (by omega)]; exact w3⟩
theorem SI.u3 {pp ss : TT} {v : Int} (x : SI pp ss)  : SI pp (su ss 3 0 v) := by
  have se : ∀ k' i', ¬ (k' = 3 ∧ i' = 0) → su ss 3 0 v k' i' = ss k' i' := fun k' i' hn => su_ne hn
  have s1 : su ss 3 0 v 3 0 = v := su_eq
  obtain ⟨x1, x2, x3, x4, x5, x6, x7⟩ := x
  refine ⟨by rw [se _ _ (by omega)]; exact x1, by rw [se _ _ (by omega)]; exact x2, by rw [se _ _ (by omega)]; exact x3, fun v2 z1 z2 => ?_, fun p z1 z2 => ?_, fun i2 => by rw [se _ _ (by omega)]; exact x6 i2, fun v2 p z1 z2 z3 z4 z5 => by rw [se _ _ (by omega)]; exact x7 v2 p z1 z2 z3 z4 z5⟩
  · rw [se _ _ (by omega)]; exact x4 v2 z1 z2
  · obtain ⟨w1, w2, w3⟩ := x5 p z1 z2
    exact ⟨by rw [se 6 _ (by omega)]; exact w1, by rw [se 7 _ (by omega), se 0 _ (by omega)]; exact w2, by rw [se 8 _ (by omega)]; exact w3⟩
theorem SI.u4 {pp ss : TT} {i v : Int} (x : SI pp ss) (hv : 0 ≤ v ∧ v ≤ 9999) : SI pp (su ss 4 i v) := by
  have se : ∀ k' i', ¬ (k' = 4 ∧ i' = i) → su ss 4 i v k' i' = ss k' i' := fun k' i' hn => su_ne hn
  have s1 : su ss 4 i v 4 i = v := su_eq
  obtain ⟨x1, x2, x3, x4, x5, x6, x7⟩ := x
  refine ⟨by rw [se _ _ (by omega)]; exact x1, by rw [se _ _ (by omega)]; exact x2, by rw [se _ _ (by omega)]; exact x3, fun v2 z1 z2 => ?_, fun p z1 z2 => ?_, fun i2 => by rw [se _ _ (by omega)]; exact x6 i2, fun v2 p z1 z2 z3 z4 z5 => by rw [se _ _ (by omega)]; exact x7 v2 p z1 z2 z3 z4 z5⟩
  · by_cases hz : v2 = i
    · subst hz; rw [s1]; exact hv
    · rw [se _ _ (by omega)]; exact x4 v2 z1 z2
  · obtain ⟨w1, w2, w3⟩ := x5 p z1 z2
    exact ⟨by rw [se 6 _ (by omega)]; exact w1, by rw [se 7 _ (by omega), se 0 _ (by omega)]; exact w2, by rw [se 8 _ (by omega)]; exact w3⟩
theorem SI.u5 {pp ss : TT} {i v : Int} (x : SI pp ss)  : SI pp (su ss 5 i v) := by
  have se : ∀ k' i', ¬ (k' = 5 ∧ i' = i) → su ss 5 i v k' i' = ss k' i' := fun k' i' hn => su_ne hn
  have s1 : su ss 5 i v 5 i = v := su_eq
  obtain ⟨x1, x2, x3, x4, x5, x6, x7⟩ := x
  refine ⟨by rw [se _ _ (by omega)]; exact x1, by rw [se _ _ (by omega)]; exact x2, by rw [se _ _ (by omega)]; exact x3, fun v2 z1 z2 => ?_, fun p z1 z2 => ?_, fun i2 => by rw [se _ _ (by omega)]; exact x6 i2, fun v2 p z1 z2 z3 z4 z5 => by rw [se _ _ (by omega)]; exact x7 v2 p z1 z2 z3 z4 z5⟩
  · rw [se _ _ (by omega)]; exact x4 v2 z1 z2
  · obtain ⟨w1, w2, w3⟩ := x5 p z1 z2
    exact ⟨by rw [se 6 _ (by omega)]; exact w1, by rw [se 7 _ (by omega), se 0 _ (by omega)]; exact w2, by rw [se 8 _ (by omega)]; exact w3⟩
theorem SI.u6 {pp ss : TT} {i v : Int} (x : SI pp ss) (hv : 1 ≤ v ∧ v ≤ 9999) : SI pp (su ss 6 i v) := by
  have se : ∀ k' i', ¬ (k' = 6 ∧ i' = i) → su ss 6 i v k' i' = ss k' i' := fun k' i' hn => su_ne hn
  have s1 : su ss 6 i v 6 i = v := su_eq
  obtain ⟨x1, x2, x3, x4, x5, x6, x7⟩ := x
  refine ⟨by rw [se _ _ (by omega)]; exact x1, by rw [se _ _ (by omega)]; exact x2, by rw [se _ _ (by omega)]; exact x3, fun v2 z1 z2 => ?_, fun p z1 z2 => ?_, fun i2 => by rw [se _ _ (by omega)]; exact x6 i2, fun v2 p z1 z2 z3 z4 z5 => by rw [se _ _ (by omega)]; exact x7 v2 p z1 z2 z3 z4 z5⟩
  · rw [se _ _ (by omega)]; exact x4 v2 z1 z2
  · obtain ⟨w1, w2, w3⟩ := x5 p z1 z2
    refine ⟨?_, by rw [se 7 _ (by omega), se 0 _ (by omega)]; exact w2, by rw [se 8 _ (by omega)]; exact w3⟩
    by_cases hz : p = i
    · subst hz; rw [s1]; exact hv
    · rw [se _ _ (by omega)]; exact w1
theorem SI.u1 {pp ss : TT} {v : Int} (x : SI pp ss) (hv : 0 ≤ v ∧ v ≤ 9999) : SI pp (su ss 1 0 v) := by
  have se : ∀ k' i', ¬ (k' = 1 ∧ i' = 0) → su ss 1 0 v k' i' = ss k' i' := fun k' i' hn => su_ne hn
  have s1 : su ss 1 0 v 1 0 = v := su_eq
  obtain ⟨x1, x2, x3, x4, x5, x6, x7⟩ := x
  refine ⟨by rw [se _ _ (by omega)]; exact x1, by rw [s1]; exact hv, by rw [se _ _ (by omega)]; exact x3, fun v2 z1 z2 => ?_, fun p z1 z2 => ?_, fun i2 => by rw [se _ _ (by omega)]; exact x6 i2, fun v2 p z1 z2 z3 z4 z5 => by rw [se _ _ (by omega)]; exact x7 v2 p z1 z2 z3 z4 z5⟩
  · rw [se _ _ (by omega)]; exact x4 v2 z1 z2
  · obtain ⟨w1, w2, w3⟩ := x5 p z1 z2
    exact ⟨by rw [se 6 _ (by omega)]; exact w1, by rw [se 7 _ (by omega), se 0 _ (by omega)]; exact w2, by rw [se 8 _ (by omega)]; exact w3⟩
theorem SI.u7 {pp ss : TT} {i v : Int} (x : SI pp ss) (hv : -1 ≤ v ∧ v ≤ ss 0 0) : SI pp (su ss 7 i v) := by
  have se : ∀ k' i', ¬ (k' = 7 ∧ i' = i) → su ss 7 i v k' i' = ss k' i' := fun k' i' hn => su_ne hn
  have s1 : su ss 7 i v 7 i = v := su_eq
  obtain ⟨x1, x2, x3, x4, x5, x6, x7⟩ := x
  refine ⟨by rw [se _ _ (by omega)]; exact x1, by rw [se _ _ (by omega)]; exact x2, by rw [se _ _ (by omega)]; exact x3, fun v2 z1 z2 => by rw [se _ _ (by omega)]; exact x4 v2 z1 z2, fun p z1 z2 => ?_, fun i2 => by rw [se _ _ (by omega)]; exact x6 i2, fun v2 p z1 z2 z3 z4 z5 => by rw [se _ _ (by omega)]; exact x7 v2 p z1 z2 z3 z4 z5⟩
  obtain ⟨w1, w2, w3⟩ := x5 p z1 z2
  rw [se 6 _ (by omega), se 8 _ (by omega), se 0 _ (by omega)]
  by_cases hz : p = i
  · subst hz
    rw [s1]
    exact ⟨w1, hv, w3⟩
  · rw [se 7 _ (by omega)]
    exact ⟨w1, w2, w3⟩
theorem SI.u8 {pp ss : TT} {i v : Int} (x : SI pp ss) (hv : v = 0 ∨ v = 1) : SI pp (su ss 8 i v) := by
  have se : ∀ k' i', ¬ (k' = 8 ∧ i' = i) → su ss 8 i v k' i' = ss k' i' := fun k' i' hn => su_ne hn
  have s1 : su ss 8 i v 8 i = v := su_eq
  obtain ⟨x1, x2, x3, x4, x5, x6, x7⟩ := x
  refine ⟨by rw [se _ _ (by omega)]; exact x1, by rw [se _ _ (by omega)]; exact x2, by rw [se _ _ (by omega)]; exact x3, fun v2 z1 z2 => by rw [se _ _ (by omega)]; exact x4 v2 z1 z2, fun p z1 z2 => ?_, fun i2 => by rw [se _ _ (by omega)]; exact x6 i2, fun v2 p z1 z2 z3 z4 z5 => by rw [se _ _ (by omega)]; exact x7 v2 p z1 z2 z3 z4 z5⟩
  obtain ⟨w1, w2, w3⟩ := x5 p z1 z2
  rw [se 6 _ (by omega), se 7 _ (by omega), se 0 _ (by omega)]
  by_cases hz : p = i
  · subst hz
    rw [s1]
    exact ⟨w1, w2, hv⟩
  · rw [se 8 _ (by omega)]
    exact ⟨w1, w2, w3⟩
