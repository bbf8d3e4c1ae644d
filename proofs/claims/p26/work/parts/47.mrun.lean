/-! ===== the reference's loop over a test ===== -/
section
variable {d : Nat} {h : AH} {u q s e b pos en co x z v w : Int} {pp ss : TT} {K : AK} {st : List Int} {y1 y5 : AV}
theorem stk_top {h : AH} {c v : Int} {st : List Int} (x : stk h c (v :: st)) : am_m h c (st.length : Int) = v := x.1
theorem stk_push {h : AH} {c v : Int} {st : List Int} (x : stk h c st) : stk (am_w h c (st.length : Int) v) c (v :: st) := by
  refine ⟨?_, stk_w x (Or.inr (Int.le_refl _))⟩
  rw [am_m_w, if_pos ⟨rfl, rfl⟩]
end
/-- only the stack of the state at b has changed -/
def Fm (b : Int) (h h' : AH) : Prop := am_n h' = am_n h ∧ am_sl h' = am_sl h ∧ (∀ j, am_sx h' j = am_sx h j) ∧ (∀ c, am_t h' c = am_t h c ∧ am_l h' c = am_l h c) ∧ ∀ c i, c ≠ b + 7 → am_m h' c i = am_m h c i
theorem Fm.rf {b : Int} {h : AH} : Fm b h h := ⟨rfl, rfl, fun _ => rfl, fun _ => ⟨rfl, rfl⟩, fun _ _ _ => rfl⟩
theorem Fm.tr {b : Int} {h h1 h2 : AH} (x : Fm b h h1) (y : Fm b h1 h2) : Fm b h h2 := ⟨y.1.trans x.1, y.2.1.trans x.2.1, fun j => (y.2.2.1 j).trans (x.2.2.1 j), fun c => ⟨(y.2.2.2.1 c).1.trans (x.2.2.2.1 c).1, (y.2.2.2.1 c).2.trans (x.2.2.2.1 c).2⟩, fun c i z1 => (y.2.2.2.2 c i z1).trans (x.2.2.2.2 c i z1)⟩
theorem Fm.mpush {h h1 : AH} {b n v : Int} (x : Fm b h h1) : Fm b h (am_w h1 (b + 7) n v) := ⟨x.1, x.2.1, x.2.2.1, x.2.2.2.1, fun c i z1 => by rw [am_m_w, if_neg (fun z => z1 z.1)]; exact x.2.2.2.2 c i z1⟩
theorem Fm.fr {b : Int} {h h1 : AH} (x : Fm b h h1) : Fr b 8 h h1 := ⟨Int.le_of_eq x.1.symm, x.2.1, x.2.2.1, fun c _ => x.2.2.2.1 c, fun c _ z2 i => x.2.2.2.2 c i (by omega)⟩
section
variable {d : Nat} {h0 : AH} {u q s e b en : Int} {pp ss : TT} {K : AK} {y1 : AV}
end
/-- the tests of the reference's plan at q, as operations -/
def MT (h : AH) (q : Int) (pp : TT) (tt : Int → List Op) : Prop := ∀ i, 0 ≤ i → i < pp 3 0 → tst pp (tt i) [] [true] ∧ ((tt i).length : Int) ≤ 400 ∧ spm h q (am_m h (q + 8) i) (am_m h (q + 7) i) (tt i)
theorem MT.fr {h h1 : AH} {q lo n : Int} {pp : TT} {tt : Int → List Op} (x : MT h q pp tt) (x1 : P7 h q) (fr : Fr lo n h h1) (ap : q + 11 ≤ lo ∨ lo + n ≤ q) : MT h1 q pp tt := by
  have hp := x1.p
  have hb := x1.b
  have e : ∀ j, 0 ≤ j → j < 11 → ∀ i, am_m h1 (q + j) i = am_m h (q + j) i := fun j y1 y2 i => fr.2.2.2.2 (q + j) (by omega) (by omega) i
  intro i z1 z2
  obtain ⟨g1, g2, g3⟩ := x i z1 z2
  refine ⟨g1, g2, ?_⟩
  rw [e 7 (by omega) (by omega), e 8 (by omega) (by omega)]
  exact spm_fr (e 9 (by omega) (by omega)) g3