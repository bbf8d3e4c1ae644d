/-! ===== the reference: a byte of the tape ===== -/
def s_by (tp : Int → Int) (tl i : Int) : Int := if i < tl then tp i else -1
theorem c162 {d : Nat} {h : AH} {pp ss : TT} {tt : Int → List Op} {tp : Int → Int} {tl er q i : Int} {K : AK} (g : GM h pp ss tt tl tp er q) (h0 : 0 ≤ i) (k : K 0 (s_by tp tl i) h) : am_call d 162 [(2, 53), (0, i)] h K := by
  have tb := g.tb
  unfold s_by at k
  refine v162 ⟨g.c.M.t, ?_⟩
  simp only [g.tl, g.c.M.t, g.c.M.f1, g.c.M.t1, g.c.M.l1, true_and]
  refine ⟨fun z => ⟨⟨h0, by omega⟩, ?_⟩, fun z => ?_⟩
  · rw [if_pos z] at k
    have e : am_m h 54 i = tp i := g.tm i h0 z
    rw [show (53 : Int) + 1 = 54 from rfl, e]
    exact k
  · rw [if_neg z] at k
    exact k
/-- a row of the reference other than its tape is written -/
theorem GM.ro {h : AH} {pp ss : TT} {tt : Int → List Op} {tp : Int → Int} {tl er q b i v : Int} (g : GM h pp ss tt tl tp er q) (hb : 55 ≤ b ∧ b < 60) : GM (am_w h b i v) pp ss tt tl tp er q :=
  g.row (by omega) (fun j z1 z2 => by rw [am_m_w, if_neg (by omega)]; exact g.tm j z1 z2)
