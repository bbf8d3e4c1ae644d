/-! ===== the law's own jury: how many are built ===== -/
theorem s170 {d : Nat} {h : AH} {a : Int} {A pp ss : TT} {bb : Int → Int → Int} {K : AK} (c : SM h a A pp ss bb) (k : K 0 (s_bc pp ss) h) : am_call d 170 [(2, a)] h K := by
  have hN := c.p1
  refine v170 ⟨c.t, by rw [c.m5]; exact c.nr.1, by rw [c.m5, c.pt]; decide, ?_⟩
  rw [c.m5, c.pl]
  refine lp_in (S := AV) (fun n y => (13, [(2, a), (0, sm (f_bc ss) n), (2, A 1 0), (0, pp 1 0), (0, (n : Int)), y], [], h, 0, 0)) (fun _ _ => True) (pp 1 0).toNat (fun n y hn _ nx => ?_) (fun y _ => ?_) (9, 0) trivial
  · obtain ⟨e1, e2, e3, -, -, -, e7, -⟩ := c.p (n : Int) (by omega) (by omega)
    have h7 := (c.si.2.2.2.2.1 (n : Int) (by omega) (by omega)).2.1
    have hb : 0 ≤ sm (f_bc ss) n ∧ sm (f_bc ss) n ≤ 1 * (n : Int) := sm_bd (fun i _ => by
      unfold f_bc
      by_cases z : ss 7 (i : Int) = -1
      · rw [if_pos z]; decide
      · rw [if_neg z]; decide)
    have st : sm (f_bc ss) (n + 1) = sm (f_bc ss) n + (if ss 7 (n : Int) = -1 then 0 else 1) := rfl
    refine v170_13 ?_
    rw [e1, e2, e3, e7, c.pt, c.pl, show w32 ((n : Int) + 1) = ((n + 1 : Nat) : Int) by rw [w32_id (by omega) (by omega)]; omega]
    refine ⟨fun _ => ⟨⟨Or.inl rfl, by omega, by omega⟩, c.nn.2.2.2.1 _ (by omega) (by omega), ⟨rfl, by decide, by decide⟩, fun z => ?_, fun z => ?_⟩, fun z => absurd (show (n : Int) < pp 1 0 by omega) z⟩
    · rw [show w32 (sm (f_bc ss) n + 0) = sm (f_bc ss) (n + 1) by rw [w32_id (by omega) (by omega), st, if_pos (by omega)]]
      exact nx _ trivial
    · rw [show w32 (sm (f_bc ss) n + 1) = sm (f_bc ss) (n + 1) by rw [w32_id (by omega) (by omega), st, if_neg (by omega)]]
      exact nx _ trivial
  · exact v170_13 ⟨fun z => absurd z (by omega), fun _ => k⟩
