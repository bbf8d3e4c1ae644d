/-! ===== the reference: all is told, and the end of teach ===== -/
theorem map_getD : ∀ {R : List Int} {k : Nat}, (R.map mr).getD k 0 = mr (R.getD k 0)
  | [], _ => rfl
  | _ :: _, 0 => rfl
  | _ :: r, k + 1 => map_getD (R := r) (k := k)
section
variable {d : Nat} {h0 : AH} {q : Int} {tp : Int → Int} {tl : Int} {kd ro va fr : Nat → Int} {mn : Nat → Nat} {E : Nat} {K : AK}
end
theorem M9.sw {h h2 : AH} {q s e a : Int} (x : M9 h 53 q s e) (b : BS h h2) (ee : ∀ i, (i = 1 ∨ (5 ≤ i ∧ i ≤ 9) ∨ i = 14 ∨ i = 15) → am_m h2 53 i = am_m h 53 i) (e12 : am_m h2 53 12 = a) : M9 h2 53 a s e := by
  have hb := x.b
  have bn := b.1
  have tt : ∀ c, c < 60 → am_t h2 c = am_t h c ∧ am_l h2 c = am_l h c := fun c hc => b.2.2.2 c (by omega)
  exact ⟨(tt 53 (by decide)).1.trans x.t, e12, (ee 14 (by decide)).trans x.f14, (ee 15 (by decide)).trans x.f15, (ee 1 (by decide)).trans x.f1, (tt (53 + 1) (by decide)).1.trans x.t1, (tt (53 + 1) (by decide)).2.trans x.l1, (ee 5 (by decide)).trans x.f5, (tt (53 + 2) (by decide)).1.trans x.t2, (tt (53 + 2) (by decide)).2.trans x.l2, (ee 6 (by decide)).trans x.f6, (tt (53 + 3) (by decide)).1.trans x.t3, (tt (53 + 3) (by decide)).2.trans x.l3, (ee 7 (by decide)).trans x.f7, (tt (53 + 4) (by decide)).1.trans x.t4, (tt (53 + 4) (by decide)).2.trans x.l4, (ee 8 (by decide)).trans x.f8, (tt (53 + 5) (by decide)).1.trans x.t5, (tt (53 + 5) (by decide)).2.trans x.l5, (ee 9 (by decide)).trans x.f9, (tt (53 + 6) (by decide)).1.trans x.t6, (tt (53 + 6) (by decide)).2.trans x.l6, x.p, by omega⟩