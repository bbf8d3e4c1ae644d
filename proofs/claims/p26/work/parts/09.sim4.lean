section SIM
variable {G : am_En} {l : Launch} {d m : Nat} {p : Program} {e : Env} {R : Room} {s : State} {mth : MethodId} {args : Array Value} {below : List Frame} {meth : Method} {cd : Code} {Q : State → Prop} {K : AK} {X : AX} {Z : AC → Prop} {hs : List (Nat × Nat × Nat × Nat)}
variable {pc : Nat} {ls st : List AV} {h : AH} {c s0 : Nat}
/-- an index, as the abstract machine has it -/
theorem am_ix {i : Int32} {n : Nat} (h0 : 0 ≤ i.toInt) (h1 : i.toInt < (n : Int)) : vp_in i n ∧ i.toNatClampNeg < n ∧ ((i.toNatClampNeg : Nat) : Int) = i.toInt := by
  have e : i.toNatClampNeg = i.toInt.toNat := rfl
  refine ⟨?_, by omega, by omega⟩
  rintro (z | z)
  · have := Int32.lt_iff_toInt_lt.mp z
    have e0 : (0 : Int32).toInt = 0 := rfl
    omega
  · omega
/-- a store into a field -/
theorem am_obj_put {h : AH} {a v : Int} {r1 r2 : Nat} {q : vw_C} {H H1 : Heap} {F : Nat → Value} {V : Value} {cell : Cell} (hH : am_HM G h H) (ht : am_t h a = r1) (f1 : vwCl[r1 - 1]? = some q) (f5 : 1 ≤ r1) (f6 : r1 ≤ 9) (f2 : r2 < q.2.2)
    (hap : ∀ x y, x < q.2.2 → y < q.2.2 → x ≠ y → ((eD G).2 (r1 - 1)) x ≠ ((eD G).2 (r1 - 1)) y) (q2 : cell.cls = (eD G).1 (r1 - 1)) (q3 : cell.vm = .none) (q4 : ∀ k, k < q.2.2 → cell.slots[(eD G).2 (r1 - 1) k]? = some (F k))
    (b3 : ∀ k : Nat, k < q.2.2 → am_RV G ((am_ft r1).getD k 0, am_m h a (k : Int)) (F k)) (hV : am_RV G ((am_ft r1).getD r2 0, v) V)
    (e1 : H1[ea G a]? = some (cell.setSlot ((eD G).2 (r1 - 1) r2) V)) (z : H1.size = H.size) (oq : ∀ x : Nat, x ≠ ea G a → H1[x]? = H[x]?) : am_HM G (am_w h a (r2 : Int) v) H1 := by
  refine am_HM_set hH (a := a) ⟨by omega, by omega, by omega⟩ z oq rfl rfl (fun _ => rfl) (fun _ => rfl) (fun _ => rfl) (fun b j hb => by rw [am_m_w, if_neg (fun z => hb z.1)]) ?_
  refine (am_CO_obj (show am_t (am_w h a (r2 : Int) v) a = r1 from ht) f5 f6).mpr ⟨q, updV F r2 V, f1, ⟨_, e1, q2, q3, t_set q4 hap f2 V⟩, fun k hk => ?_⟩
  rw [am_m_w]
  by_cases hkr : k = r2
  · subst hkr
    rw [if_pos ⟨rfl, rfl⟩]
    simp [updV]
    exact hV
  · rw [if_neg (fun z => hkr (by omega))]
    simp [updV, hkr]
    exact b3 k hk
theorem am_i_putfield_i (C : am_Cx G l d m p R s mth args meth cd) {idx r1 r2 : Nat} {q : vw_C} (hf : am_fok m idx r1 r2 0 q) (ty0 : Nat → FieldType) (hty : ∀ k, k < q.2.2 → parseFieldDescriptor (q.2.1 k).2.2.1 = some (ty0 k)) (hnm : ∀ a, a < q.2.2 → ∀ b, b < q.2.2 → a ≠ b → (q.2.1 a).2.1 ≠ (q.2.1 b).2.1) (hfin : (q.2.1 r2).2.2.2 = false) (hty2 : ty0 r2 = .int) (hd : decode (am_cd m) pc = .ok (.putfield idx, 3)) (w : am_stp X (am_Gl G m p l e R s mth args below meth cd Q) d hs K (am_pI st fun v r => am_pR r fun a r => am_ck (am_t h a = r1) (pc + 3, ls, r, am_w h a (r2 : Int) v, c, s0))) : am_Gl G m p l e R s mth args below meth cd Q (pc, ls, st, h, c, s0) := by
  obtain ⟨hx, hb, hml, hown, hts, hW, hR, hlk, htr, hin⟩ := C
  have w1 := am_pI_inv w
  clear w
  obtain ⟨v, r, rfl, w⟩ := w1
  have w1 := am_pR_inv w
  clear w
  obtain ⟨a, r, rfl, ht, w⟩ := w1
  obtain ⟨f1, f2, f4, f5, f6, f7, f8⟩ := hf
  intro H locs arr sv hH hS hL hst hc hs0
  dsimp only at hH hL hst hc hs0 ⊢
  have hq := am_RS_inv hst
  clear hst
  obtain ⟨VV, sv, rfl, hVV, hst⟩ := hq
  have hq := am_RS_inv hst
  clear hst
  obtain ⟨VA, sv, rfl, hVA, hst⟩ := hq
  obtain ⟨g1, g2⟩ := hH.2.2 a (by omega)
  obtain ⟨q', F, b1, b2, b3⟩ := (am_CO_obj ht f5 f6).mp g2
  cases b1.symm.trans f1
  have hVa : VA = .ref (ea G a) := by
    exact am_RVr hVA (hH.o (a := a) (by omega)).1
  subst hVa
  have hK : va_K (eD G) vwCl [(eI G, .int), (eY G, .byte), (eJ G, .long), (eZ G, .boolean), (eQ G, .array .int), (eR G, .array .boolean)] s := hW.1.1
  have hap := va_apart (own := (am_mn m).cls) hts f7 ty0 hty hnm hK f1
  obtain ⟨cell, q1, q2, q3, q4⟩ := b2
  obtain ⟨hSl, hfc, kC, hkC, hkind⟩ := hK.1 (r1 - 1) _ f1
  obtain ⟨cf, kf, fi, f, hi, hsl⟩ := hSl r2 f2
  have hlay := hts _ (f7 _ (u_in_lay f2))
  unfold u_lay at hlay
  have hst2 := (u_facts hfc hkC (u_lays hts f7 f2) hi).1
  have hi' : s.fieldFound? (q.2.1 r2).1 (q.2.1 r2).2.1 (q.2.1 r2).2.2.1 = some (cf, kf, fi, f) := hi
  have hRV : am_RV G ((am_ft r1).getD r2 0, v) VV := by rw [f4]; exact hVV
  have hnar : narrow (ty0 r2) VV = VV ∧ fits (ty0 r2) VV = true := by
    rw [hty2]
    obtain ⟨x, rfl, -⟩ := hVV
    exact ⟨rfl, rfl⟩
  rw [if_neg (by rw [hfin]; decide)] at hlay
  have h6 := u_store hfc hkC hkind hlay hi (hty r2 f2) hnar.1 hnar.2
  have fin : ∀ (H1 : Heap), H1[ea G a]? = some (cell.setSlot f.slot VV) → H1.size = H.size → (∀ x, x ≠ ea G a → H1[x]? = H[x]?) → W p l e R s mth args below meth cd H1 (locs ++ [⟨ea G a, f.slot⟩]) c s0 Q (F0 mth (pc + 3) arr sv) := by
    intro H1 e1 e2 e3
    rw [hsl] at e1 ⊢
    exact w H1 _ arr sv (am_obj_put hH ht f1 f5 f6 f2 hap q2 q3 q4 b3 hRV e1 e2 e3) (hS.put e2 e3 (hH.w (a := a) ⟨by omega, by omega, by omega⟩).2.1) hL hst hc hs0
  rcases f8 with f8 | ⟨host, f8⟩
  · exact W.putK hx hb (f := f) ⟨hown, hts _ f8, ⟨_, _, _, hi'⟩, hst2⟩ (by rw [q2]; exact h6) q1 q3 (by rw [hsl]; exact k2_hasslot (q4 r2 f2)) rfl rfl hd fin
  · exact va_WputK hx hb (f := f) hown (va_Nw.use rfl (hW.1.2.1 _ f8 rfl)) hi' hst2 (by rw [q2]; exact h6) q1 q3 (by rw [hsl]; exact k2_hasslot (q4 r2 f2)) rfl rfl hd fin
theorem am_i_putfield_ib (C : am_Cx G l d m p R s mth args meth cd) {idx r1 r2 : Nat} {q : vw_C} (hf : am_fok m idx r1 r2 0 q) (ty0 : Nat → FieldType) (hty : ∀ k, k < q.2.2 → parseFieldDescriptor (q.2.1 k).2.2.1 = some (ty0 k)) (hnm : ∀ a, a < q.2.2 → ∀ b, b < q.2.2 → a ≠ b → (q.2.1 a).2.1 ≠ (q.2.1 b).2.1) (hfin : (q.2.1 r2).2.2.2 = false) (hty2 : ty0 r2 = .byte ∨ ty0 r2 = .boolean) (hd : decode (am_cd m) pc = .ok (.putfield idx, 3)) (w : am_stp X (am_Gl G m p l e R s mth args below meth cd Q) d hs K (am_pI st fun v r => am_pR r fun a r => am_ck (am_t h a = r1 ∧ v = 0) (pc + 3, ls, r, am_w h a (r2 : Int) v, c, s0))) : am_Gl G m p l e R s mth args below meth cd Q (pc, ls, st, h, c, s0) := by
  obtain ⟨hx, hb, hml, hown, hts, hW, hR, hlk, htr, hin⟩ := C
  have w1 := am_pI_inv w
  clear w
  obtain ⟨v, r, rfl, w⟩ := w1
  have w1 := am_pR_inv w
  clear w
  obtain ⟨a, r, rfl, ⟨ht, hv0⟩, w⟩ := w1
  obtain ⟨f1, f2, f4, f5, f6, f7, f8⟩ := hf
  intro H locs arr sv hH hS hL hst hc hs0
  dsimp only at hH hL hst hc hs0 ⊢
  have hq := am_RS_inv hst
  clear hst
  obtain ⟨VV, sv, rfl, hVV, hst⟩ := hq
  have hq := am_RS_inv hst
  clear hst
  obtain ⟨VA, sv, rfl, hVA, hst⟩ := hq
  obtain ⟨g1, g2⟩ := hH.2.2 a (by omega)
  obtain ⟨q', F, b1, b2, b3⟩ := (am_CO_obj ht f5 f6).mp g2
  cases b1.symm.trans f1
  have hVa : VA = .ref (ea G a) := by
    exact am_RVr hVA (hH.o (a := a) (by omega)).1
  subst hVa
  have hK : va_K (eD G) vwCl [(eI G, .int), (eY G, .byte), (eJ G, .long), (eZ G, .boolean), (eQ G, .array .int), (eR G, .array .boolean)] s := hW.1.1
  have hap := va_apart (own := (am_mn m).cls) hts f7 ty0 hty hnm hK f1
  obtain ⟨cell, q1, q2, q3, q4⟩ := b2
  obtain ⟨hSl, hfc, kC, hkC, hkind⟩ := hK.1 (r1 - 1) _ f1
  obtain ⟨cf, kf, fi, f, hi, hsl⟩ := hSl r2 f2
  have hlay := hts _ (f7 _ (u_in_lay f2))
  unfold u_lay at hlay
  have hst2 := (u_facts hfc hkC (u_lays hts f7 f2) hi).1
  have hi' : s.fieldFound? (q.2.1 r2).1 (q.2.1 r2).2.1 (q.2.1 r2).2.2.1 = some (cf, kf, fi, f) := hi
  have hRV : am_RV G ((am_ft r1).getD r2 0, v) VV := by rw [f4]; exact hVV
  have hnar : narrow (ty0 r2) VV = VV ∧ fits (ty0 r2) VV = true := by
    obtain ⟨x, rfl, hx0⟩ := hVV
    have ex : x = 0 := Int32.toInt_inj.mp (hx0.symm.trans hv0)
    subst ex
    rcases hty2 with hty2 | hty2 <;> rw [hty2] <;> exact ⟨rfl, rfl⟩
  rw [if_neg (by rw [hfin]; decide)] at hlay
  have h6 := u_store hfc hkC hkind hlay hi (hty r2 f2) hnar.1 hnar.2
  have fin : ∀ (H1 : Heap), H1[ea G a]? = some (cell.setSlot f.slot VV) → H1.size = H.size → (∀ x, x ≠ ea G a → H1[x]? = H[x]?) → W p l e R s mth args below meth cd H1 (locs ++ [⟨ea G a, f.slot⟩]) c s0 Q (F0 mth (pc + 3) arr sv) := by
    intro H1 e1 e2 e3
    rw [hsl] at e1 ⊢
    exact w H1 _ arr sv (am_obj_put hH ht f1 f5 f6 f2 hap q2 q3 q4 b3 hRV e1 e2 e3) (hS.put e2 e3 (hH.w (a := a) ⟨by omega, by omega, by omega⟩).2.1) hL hst hc hs0
  rcases f8 with f8 | ⟨host, f8⟩
  · exact W.putK hx hb (f := f) ⟨hown, hts _ f8, ⟨_, _, _, hi'⟩, hst2⟩ (by rw [q2]; exact h6) q1 q3 (by rw [hsl]; exact k2_hasslot (q4 r2 f2)) rfl rfl hd fin
  · exact va_WputK hx hb (f := f) hown (va_Nw.use rfl (hW.1.2.1 _ f8 rfl)) hi' hst2 (by rw [q2]; exact h6) q1 q3 (by rw [hsl]; exact k2_hasslot (q4 r2 f2)) rfl rfl hd fin
theorem am_i_putfield_iF (C : am_Cx G l d m p R s mth args meth cd) {idx r1 r2 : Nat} {q : vw_C} (hf : am_fok m idx r1 r2 0 q) (ty0 : Nat → FieldType) (hty : ∀ k, k < q.2.2 → parseFieldDescriptor (q.2.1 k).2.2.1 = some (ty0 k)) (hnm : ∀ a, a < q.2.2 → ∀ b, b < q.2.2 → a ≠ b → (q.2.1 a).2.1 ≠ (q.2.1 b).2.1) (hfin : (q.2.1 r2).2.2.2 = true) (hini : (am_mn m).name = "<init>") (hdcl : (q.2.1 r2).1 = (am_mn m).cls) (hlk2 : Cond.fieldLink (am_mn m).cls idx (q.2.1 r2).1 (q.2.1 r2).2.1 (q.2.1 r2).2.2.1 ∈ am_W) (hty2 : ty0 r2 = .int) (hd : decode (am_cd m) pc = .ok (.putfield idx, 3)) (w : am_stp X (am_Gl G m p l e R s mth args below meth cd Q) d hs K (am_pI st fun v r => am_pR r fun a r => am_ck (am_t h a = r1) (pc + 3, ls, r, am_w h a (r2 : Int) v, c, s0))) : am_Gl G m p l e R s mth args below meth cd Q (pc, ls, st, h, c, s0) := by
  obtain ⟨hx, hb, hml, hown, hts, hW, hR, hlk, htr, hin⟩ := C
  have w1 := am_pI_inv w
  clear w
  obtain ⟨v, r, rfl, w⟩ := w1
  have w1 := am_pR_inv w
  clear w
  obtain ⟨a, r, rfl, ht, w⟩ := w1
  obtain ⟨f1, f2, f4, f5, f6, f7, f8⟩ := hf
  intro H locs arr sv hH hS hL hst hc hs0
  dsimp only at hH hL hst hc hs0 ⊢
  have hq := am_RS_inv hst
  clear hst
  obtain ⟨VV, sv, rfl, hVV, hst⟩ := hq
  have hq := am_RS_inv hst
  clear hst
  obtain ⟨VA, sv, rfl, hVA, hst⟩ := hq
  obtain ⟨g1, g2⟩ := hH.2.2 a (by omega)
  obtain ⟨q', F, b1, b2, b3⟩ := (am_CO_obj ht f5 f6).mp g2
  cases b1.symm.trans f1
  have hVa : VA = .ref (ea G a) := by
    exact am_RVr hVA (hH.o (a := a) (by omega)).1
  subst hVa
  have hK : va_K (eD G) vwCl [(eI G, .int), (eY G, .byte), (eJ G, .long), (eZ G, .boolean), (eQ G, .array .int), (eR G, .array .boolean)] s := hW.1.1
  have hap := va_apart (own := (am_mn m).cls) hts f7 ty0 hty hnm hK f1
  obtain ⟨cell, q1, q2, q3, q4⟩ := b2
  obtain ⟨hSl, hfc, kC, hkC, hkind⟩ := hK.1 (r1 - 1) _ f1
  obtain ⟨cf, kf, fi, f, hi, hsl⟩ := hSl r2 f2
  have hlay := hts _ (f7 _ (u_in_lay f2))
  unfold u_lay at hlay
  have hst2 := (u_facts hfc hkC (u_lays hts f7 f2) hi).1
  have hi' : s.fieldFound? (q.2.1 r2).1 (q.2.1 r2).2.1 (q.2.1 r2).2.2.1 = some (cf, kf, fi, f) := hi
  have hRV : am_RV G ((am_ft r1).getD r2 0, v) VV := by rw [f4]; exact hVV
  have hnar : narrow (ty0 r2) VV = VV ∧ fits (ty0 r2) VV = true := by
    rw [hty2]
    obtain ⟨x, rfl, -⟩ := hVV
    exact ⟨rfl, rfl⟩
  rw [if_pos hfin] at hlay
  have hcf : mth.cls = cf := by
    obtain ⟨_, _, c', _, _, _, -, -, hf', -, -, -, hown2, -⟩ := Cond.laysFinal_spec hlay
    have e1 : c' = cf := by have := hi.symm.trans hf'; simp at this; exact this.1.symm
    rw [hdcl] at hown2
    rw [← e1]; exact Option.some.inj (hown.symm.trans hown2)
  have h6 := u_fits hfc hkC hkind (Or.inr hlay) hi (hty r2 f2) hnar.1 hnar.2
  refine W.putFinK hx hb hown (hts _ hlk2) hi' hst2 hcf (hin hini) (by rw [q2]; exact h6) q1 q3 (by rw [hsl]; exact k2_hasslot (q4 r2 f2)) rfl rfl hd fun H1 e1 e2 e3 => ?_
  rw [hsl] at e1 ⊢
  exact w H1 _ arr sv (am_obj_put hH ht f1 f5 f6 f2 hap q2 q3 q4 b3 hRV e1 e2 e3) (hS.put e2 e3 (hH.w (a := a) ⟨by omega, by omega, by omega⟩).2.1) hL hst hc hs0
theorem am_i_putfield_iFb (C : am_Cx G l d m p R s mth args meth cd) {idx r1 r2 : Nat} {q : vw_C} (hf : am_fok m idx r1 r2 0 q) (ty0 : Nat → FieldType) (hty : ∀ k, k < q.2.2 → parseFieldDescriptor (q.2.1 k).2.2.1 = some (ty0 k)) (hnm : ∀ a, a < q.2.2 → ∀ b, b < q.2.2 → a ≠ b → (q.2.1 a).2.1 ≠ (q.2.1 b).2.1) (hfin : (q.2.1 r2).2.2.2 = true) (hini : (am_mn m).name = "<init>") (hdcl : (q.2.1 r2).1 = (am_mn m).cls) (hlk2 : Cond.fieldLink (am_mn m).cls idx (q.2.1 r2).1 (q.2.1 r2).2.1 (q.2.1 r2).2.2.1 ∈ am_W) (hty2 : ty0 r2 = .byte ∨ ty0 r2 = .boolean) (hd : decode (am_cd m) pc = .ok (.putfield idx, 3)) (w : am_stp X (am_Gl G m p l e R s mth args below meth cd Q) d hs K (am_pI st fun v r => am_pR r fun a r => am_ck (am_t h a = r1 ∧ v = 0) (pc + 3, ls, r, am_w h a (r2 : Int) v, c, s0))) : am_Gl G m p l e R s mth args below meth cd Q (pc, ls, st, h, c, s0) := by
  obtain ⟨hx, hb, hml, hown, hts, hW, hR, hlk, htr, hin⟩ := C
  have w1 := am_pI_inv w
  clear w
  obtain ⟨v, r, rfl, w⟩ := w1
  have w1 := am_pR_inv w
  clear w
  obtain ⟨a, r, rfl, ⟨ht, hv0⟩, w⟩ := w1
  obtain ⟨f1, f2, f4, f5, f6, f7, f8⟩ := hf
  intro H locs arr sv hH hS hL hst hc hs0
  dsimp only at hH hL hst hc hs0 ⊢
  have hq := am_RS_inv hst
  clear hst
  obtain ⟨VV, sv, rfl, hVV, hst⟩ := hq
  have hq := am_RS_inv hst
  clear hst
  obtain ⟨VA, sv, rfl, hVA, hst⟩ := hq
  obtain ⟨g1, g2⟩ := hH.2.2 a (by omega)
  obtain ⟨q', F, b1, b2, b3⟩ := (am_CO_obj ht f5 f6).mp g2
  cases b1.symm.trans f1
  have hVa : VA = .ref (ea G a) := by
    exact am_RVr hVA (hH.o (a := a) (by omega)).1
  subst hVa
  have hK : va_K (eD G) vwCl [(eI G, .int), (eY G, .byte), (eJ G, .long), (eZ G, .boolean), (eQ G, .array .int), (eR G, .array .boolean)] s := hW.1.1
  have hap := va_apart (own := (am_mn m).cls) hts f7 ty0 hty hnm hK f1
  obtain ⟨cell, q1, q2, q3, q4⟩ := b2
  obtain ⟨hSl, hfc, kC, hkC, hkind⟩ := hK.1 (r1 - 1) _ f1
  obtain ⟨cf, kf, fi, f, hi, hsl⟩ := hSl r2 f2
  have hlay := hts _ (f7 _ (u_in_lay f2))
  unfold u_lay at hlay
  have hst2 := (u_facts hfc hkC (u_lays hts f7 f2) hi).1
  have hi' : s.fieldFound? (q.2.1 r2).1 (q.2.1 r2).2.1 (q.2.1 r2).2.2.1 = some (cf, kf, fi, f) := hi
  have hRV : am_RV G ((am_ft r1).getD r2 0, v) VV := by rw [f4]; exact hVV
  have hnar : narrow (ty0 r2) VV = VV ∧ fits (ty0 r2) VV = true := by
    obtain ⟨x, rfl, hx0⟩ := hVV
    have ex : x = 0 := Int32.toInt_inj.mp (hx0.symm.trans hv0)
    subst ex
    rcases hty2 with hty2 | hty2 <;> rw [hty2] <;> exact ⟨rfl, rfl⟩
  rw [if_pos hfin] at hlay
  have hcf : mth.cls = cf := by
    obtain ⟨_, _, c', _, _, _, -, -, hf', -, -, -, hown2, -⟩ := Cond.laysFinal_spec hlay
    have e1 : c' = cf := by have := hi.symm.trans hf'; simp at this; exact this.1.symm
    rw [hdcl] at hown2
    rw [← e1]; exact Option.some.inj (hown.symm.trans hown2)
  have h6 := u_fits hfc hkC hkind (Or.inr hlay) hi (hty r2 f2) hnar.1 hnar.2
  refine W.putFinK hx hb hown (hts _ hlk2) hi' hst2 hcf (hin hini) (by rw [q2]; exact h6) q1 q3 (by rw [hsl]; exact k2_hasslot (q4 r2 f2)) rfl rfl hd fun H1 e1 e2 e3 => ?_
  rw [hsl] at e1 ⊢
  exact w H1 _ arr sv (am_obj_put hH ht f1 f5 f6 f2 hap q2 q3 q4 b3 hRV e1 e2 e3) (hS.put e2 e3 (hH.w (a := a) ⟨by omega, by omega, by omega⟩).2.1) hL hst hc hs0
theorem am_i_putfield_r (C : am_Cx G l d m p R s mth args meth cd) {idx r1 r2 : Nat} {q : vw_C} (hf : am_fok m idx r1 r2 2 q) (ty0 : Nat → FieldType) (hty : ∀ k, k < q.2.2 → parseFieldDescriptor (q.2.1 k).2.2.1 = some (ty0 k)) (hnm : ∀ a, a < q.2.2 → ∀ b, b < q.2.2 → a ≠ b → (q.2.1 a).2.1 ≠ (q.2.1 b).2.1) (hfin : (q.2.1 r2).2.2.2 = false) (hty2 : (∃ n, ty0 r2 = .object n) ∨ ∃ t, ty0 r2 = .array t) (hd : decode (am_cd m) pc = .ok (.putfield idx, 3)) (w : am_stp X (am_Gl G m p l e R s mth args below meth cd Q) d hs K (am_pR st fun v r => am_pR r fun a r => am_ck (am_t h a = r1) (pc + 3, ls, r, am_w h a (r2 : Int) v, c, s0))) : am_Gl G m p l e R s mth args below meth cd Q (pc, ls, st, h, c, s0) := by
  obtain ⟨hx, hb, hml, hown, hts, hW, hR, hlk, htr, hin⟩ := C
  have w1 := am_pR_inv w
  clear w
  obtain ⟨v, r, rfl, w⟩ := w1
  have w1 := am_pR_inv w
  clear w
  obtain ⟨a, r, rfl, ht, w⟩ := w1
  obtain ⟨f1, f2, f4, f5, f6, f7, f8⟩ := hf
  intro H locs arr sv hH hS hL hst hc hs0
  dsimp only at hH hL hst hc hs0 ⊢
  have hq := am_RS_inv hst
  clear hst
  obtain ⟨VV, sv, rfl, hVV, hst⟩ := hq
  have hq := am_RS_inv hst
  clear hst
  obtain ⟨VA, sv, rfl, hVA, hst⟩ := hq
  obtain ⟨g1, g2⟩ := hH.2.2 a (by omega)
  obtain ⟨q', F, b1, b2, b3⟩ := (am_CO_obj ht f5 f6).mp g2
  cases b1.symm.trans f1
  have hVa : VA = .ref (ea G a) := by
    exact am_RVr hVA (hH.o (a := a) (by omega)).1
  subst hVa
  have hK : va_K (eD G) vwCl [(eI G, .int), (eY G, .byte), (eJ G, .long), (eZ G, .boolean), (eQ G, .array .int), (eR G, .array .boolean)] s := hW.1.1
  have hap := va_apart (own := (am_mn m).cls) hts f7 ty0 hty hnm hK f1
  obtain ⟨cell, q1, q2, q3, q4⟩ := b2
  obtain ⟨hSl, hfc, kC, hkC, hkind⟩ := hK.1 (r1 - 1) _ f1
  obtain ⟨cf, kf, fi, f, hi, hsl⟩ := hSl r2 f2
  have hlay := hts _ (f7 _ (u_in_lay f2))
  unfold u_lay at hlay
  have hst2 := (u_facts hfc hkC (u_lays hts f7 f2) hi).1
  have hi' : s.fieldFound? (q.2.1 r2).1 (q.2.1 r2).2.1 (q.2.1 r2).2.2.1 = some (cf, kf, fi, f) := hi
  have hRV : am_RV G ((am_ft r1).getD r2 0, v) VV := by rw [f4]; exact hVV
  have hnar : narrow (ty0 r2) VV = VV ∧ fits (ty0 r2) VV = true := by
    rcases hVV with ⟨-, rfl⟩ | ⟨-, rfl⟩ <;> rcases hty2 with ⟨n, hn⟩ | ⟨t, hn⟩ <;> rw [hn] <;> exact ⟨rfl, rfl⟩
  rw [if_neg (by rw [hfin]; decide)] at hlay
  have h6 := u_store hfc hkC hkind hlay hi (hty r2 f2) hnar.1 hnar.2
  have fin : ∀ (H1 : Heap), H1[ea G a]? = some (cell.setSlot f.slot VV) → H1.size = H.size → (∀ x, x ≠ ea G a → H1[x]? = H[x]?) → W p l e R s mth args below meth cd H1 (locs ++ [⟨ea G a, f.slot⟩]) c s0 Q (F0 mth (pc + 3) arr sv) := by
    intro H1 e1 e2 e3
    rw [hsl] at e1 ⊢
    exact w H1 _ arr sv (am_obj_put hH ht f1 f5 f6 f2 hap q2 q3 q4 b3 hRV e1 e2 e3) (hS.put e2 e3 (hH.w (a := a) ⟨by omega, by omega, by omega⟩).2.1) hL hst hc hs0
  rcases f8 with f8 | ⟨host, f8⟩
  · exact W.putK hx hb (f := f) ⟨hown, hts _ f8, ⟨_, _, _, hi'⟩, hst2⟩ (by rw [q2]; exact h6) q1 q3 (by rw [hsl]; exact k2_hasslot (q4 r2 f2)) rfl rfl hd fin
  · exact va_WputK hx hb (f := f) hown (va_Nw.use rfl (hW.1.2.1 _ f8 rfl)) hi' hst2 (by rw [q2]; exact h6) q1 q3 (by rw [hsl]; exact k2_hasslot (q4 r2 f2)) rfl rfl hd fin
theorem am_i_putfield_rF (C : am_Cx G l d m p R s mth args meth cd) {idx r1 r2 : Nat} {q : vw_C} (hf : am_fok m idx r1 r2 2 q) (ty0 : Nat → FieldType) (hty : ∀ k, k < q.2.2 → parseFieldDescriptor (q.2.1 k).2.2.1 = some (ty0 k)) (hnm : ∀ a, a < q.2.2 → ∀ b, b < q.2.2 → a ≠ b → (q.2.1 a).2.1 ≠ (q.2.1 b).2.1) (hfin : (q.2.1 r2).2.2.2 = true) (hini : (am_mn m).name = "<init>") (hdcl : (q.2.1 r2).1 = (am_mn m).cls) (hlk2 : Cond.fieldLink (am_mn m).cls idx (q.2.1 r2).1 (q.2.1 r2).2.1 (q.2.1 r2).2.2.1 ∈ am_W) (hty2 : (∃ n, ty0 r2 = .object n) ∨ ∃ t, ty0 r2 = .array t) (hd : decode (am_cd m) pc = .ok (.putfield idx, 3)) (w : am_stp X (am_Gl G m p l e R s mth args below meth cd Q) d hs K (am_pR st fun v r => am_pR r fun a r => am_ck (am_t h a = r1) (pc + 3, ls, r, am_w h a (r2 : Int) v, c, s0))) : am_Gl G m p l e R s mth args below meth cd Q (pc, ls, st, h, c, s0) := by
  obtain ⟨hx, hb, hml, hown, hts, hW, hR, hlk, htr, hin⟩ := C
  have w1 := am_pR_inv w
  clear w
  obtain ⟨v, r, rfl, w⟩ := w1
  have w1 := am_pR_inv w
  clear w
  obtain ⟨a, r, rfl, ht, w⟩ := w1
  obtain ⟨f1, f2, f4, f5, f6, f7, f8⟩ := hf
  intro H locs arr sv hH hS hL hst hc hs0
  dsimp only at hH hL hst hc hs0 ⊢
  have hq := am_RS_inv hst
  clear hst
  obtain ⟨VV, sv, rfl, hVV, hst⟩ := hq
  have hq := am_RS_inv hst
  clear hst
  obtain ⟨VA, sv, rfl, hVA, hst⟩ := hq
  obtain ⟨g1, g2⟩ := hH.2.2 a (by omega)
  obtain ⟨q', F, b1, b2, b3⟩ := (am_CO_obj ht f5 f6).mp g2
  cases b1.symm.trans f1
  have hVa : VA = .ref (ea G a) := by
    exact am_RVr hVA (hH.o (a := a) (by omega)).1
  subst hVa
  have hK : va_K (eD G) vwCl [(eI G, .int), (eY G, .byte), (eJ G, .long), (eZ G, .boolean), (eQ G, .array .int), (eR G, .array .boolean)] s := hW.1.1
  have hap := va_apart (own := (am_mn m).cls) hts f7 ty0 hty hnm hK f1
  obtain ⟨cell, q1, q2, q3, q4⟩ := b2
  obtain ⟨hSl, hfc, kC, hkC, hkind⟩ := hK.1 (r1 - 1) _ f1
  obtain ⟨cf, kf, fi, f, hi, hsl⟩ := hSl r2 f2
  have hlay := hts _ (f7 _ (u_in_lay f2))
  unfold u_lay at hlay
  have hst2 := (u_facts hfc hkC (u_lays hts f7 f2) hi).1
  have hi' : s.fieldFound? (q.2.1 r2).1 (q.2.1 r2).2.1 (q.2.1 r2).2.2.1 = some (cf, kf, fi, f) := hi
  have hRV : am_RV G ((am_ft r1).getD r2 0, v) VV := by rw [f4]; exact hVV
  have hnar : narrow (ty0 r2) VV = VV ∧ fits (ty0 r2) VV = true := by
    rcases hVV with ⟨-, rfl⟩ | ⟨-, rfl⟩ <;> rcases hty2 with ⟨n, hn⟩ | ⟨t, hn⟩ <;> rw [hn] <;> exact ⟨rfl, rfl⟩
  rw [if_pos hfin] at hlay
  have hcf : mth.cls = cf := by
    obtain ⟨_, _, c', _, _, _, -, -, hf', -, -, -, hown2, -⟩ := Cond.laysFinal_spec hlay
    have e1 : c' = cf := by have := hi.symm.trans hf'; simp at this; exact this.1.symm
    rw [hdcl] at hown2
    rw [← e1]; exact Option.some.inj (hown.symm.trans hown2)
  have h6 := u_fits hfc hkC hkind (Or.inr hlay) hi (hty r2 f2) hnar.1 hnar.2
  refine W.putFinK hx hb hown (hts _ hlk2) hi' hst2 hcf (hin hini) (by rw [q2]; exact h6) q1 q3 (by rw [hsl]; exact k2_hasslot (q4 r2 f2)) rfl rfl hd fun H1 e1 e2 e3 => ?_
  rw [hsl] at e1 ⊢
  exact w H1 _ arr sv (am_obj_put hH ht f1 f5 f6 f2 hap q2 q3 q4 b3 hRV e1 e2 e3) (hS.put e2 e3 (hH.w (a := a) ⟨by omega, by omega, by omega⟩).2.1) hL hst hc hs0
theorem am_i_iaload (C : am_Cx G l d m p R s mth args meth cd) (hd : decode (am_cd m) pc = .ok (.iaload, 1)) (w : am_stp X (am_Gl G m p l e R s mth args below meth cd Q) d hs K (am_pI st fun i r => am_pR r fun a r => am_ck (am_t h a = 20 ∧ 0 ≤ i ∧ i < am_l h a) (pc + 1, ls, (0, am_m h a i) :: r, h, c, s0))) : am_Gl G m p l e R s mth args below meth cd Q (pc, ls, st, h, c, s0) := by
  obtain ⟨hx, hb, hml, hown, hts, hW, hR, hlk, htr, hin⟩ := C
  have w1 := am_pI_inv w
  clear w
  obtain ⟨i, r, rfl, w⟩ := w1
  have w1 := am_pR_inv w
  clear w
  obtain ⟨a, r, rfl, ⟨ht, hi0, hi1⟩, w⟩ := w1
  intro H locs arr sv hH hS hL hst hc hs0
  dsimp only at hH hL hst hc hs0 ⊢
  have hq := am_RS_inv hst
  clear hst
  obtain ⟨VI, sv, rfl, hVI, hst⟩ := hq
  have hq := am_RS_inv hst
  clear hst
  obtain ⟨VA, sv, rfl, hVA, hst⟩ := hq
  obtain ⟨x, rfl, rfl⟩ := hVI
  obtain ⟨g1, g2⟩ := hH.2.2 a (by omega)
  obtain ⟨n, f, b1, b2, b3, b4⟩ := (am_CO_i ht).mp g2
  have hVa : VA = .ref (ea G a) := by
    exact am_RVr hVA (hH.o (a := a) (by omega)).1
  subst hVa
  have hK : va_K (eD G) vwCl [(eI G, .int), (eY G, .byte), (eJ G, .long), (eZ G, .boolean), (eQ G, .array .int), (eR G, .array .boolean)] s := hW.1.1
  rw [b2] at hi1
  obtain ⟨k1, k2, k3⟩ := am_ix hi0 hi1
  have hP : va_P (eD G) vwCl [(ea G a, .inl (eI G, n, .inl f))] H := by
    intro k y hk
    match k, hk with
    | 0, hk =>
      cases hk
      exact b1
    | k + 1, hk => simp at hk
  refine va_iald hx hb hK hP 0 0 rfl rfl k1 hd ?_
  exact w H locs arr _ hH hS hL ⟨⟨_, rfl, by rw [← k3]; exact (b4 _ k2).1⟩, hst⟩ hc hs0
theorem am_i_baload (C : am_Cx G l d m p R s mth args meth cd) (hd : decode (am_cd m) pc = .ok (.baload, 1)) (w : am_stp X (am_Gl G m p l e R s mth args below meth cd Q) d hs K (am_pI st fun i r => am_pR r fun a r => am_ck (am_t h a = 21 ∧ 0 ≤ i ∧ i < am_l h a) (pc + 1, ls, (0, am_m h a i) :: r, h, c, s0))) : am_Gl G m p l e R s mth args below meth cd Q (pc, ls, st, h, c, s0) := by
  obtain ⟨hx, hb, hml, hown, hts, hW, hR, hlk, htr, hin⟩ := C
  have w1 := am_pI_inv w
  clear w
  obtain ⟨i, r, rfl, w⟩ := w1
  have w1 := am_pR_inv w
  clear w
  obtain ⟨a, r, rfl, ⟨ht, hi0, hi1⟩, w⟩ := w1
  intro H locs arr sv hH hS hL hst hc hs0
  dsimp only at hH hL hst hc hs0 ⊢
  have hq := am_RS_inv hst
  clear hst
  obtain ⟨VI, sv, rfl, hVI, hst⟩ := hq
  have hq := am_RS_inv hst
  clear hst
  obtain ⟨VA, sv, rfl, hVA, hst⟩ := hq
  obtain ⟨x, rfl, rfl⟩ := hVI
  obtain ⟨g1, g2⟩ := hH.2.2 a (by omega)
  obtain ⟨n, f, b1, b2, b3, b4⟩ := (am_CO_y ht).mp g2
  have hVa : VA = .ref (ea G a) := by
    exact am_RVr hVA (hH.o (a := a) (by omega)).1
  subst hVa
  have hK : va_K (eD G) vwCl [(eI G, .int), (eY G, .byte), (eJ G, .long), (eZ G, .boolean), (eQ G, .array .int), (eR G, .array .boolean)] s := hW.1.1
  rw [b2] at hi1
  obtain ⟨k1, k2, k3⟩ := am_ix hi0 hi1
  have hP : va_P (eD G) vwCl [(ea G a, .inl (eY G, n, .inl f))] H := by
    intro k y hk
    match k, hk with
    | 0, hk =>
      cases hk
      exact b1
    | k + 1, hk => simp at hk
  refine va_bald hx hb hK hP 0 1 rfl rfl k1 hd ?_
  exact w H locs arr _ hH hS hL ⟨⟨_, rfl, by rw [← k3]; exact (b4 _ k2).1⟩, hst⟩ hc hs0
theorem am_i_laload (C : am_Cx G l d m p R s mth args meth cd) (hd : decode (am_cd m) pc = .ok (.laload, 1)) (w : am_stp X (am_Gl G m p l e R s mth args below meth cd Q) d hs K (am_pI st fun i r => am_pR r fun a r => am_ck (am_t h a = 22 ∧ 0 ≤ i ∧ i < am_l h a) (pc + 1, ls, (1, am_m h a i) :: r, h, c, s0))) : am_Gl G m p l e R s mth args below meth cd Q (pc, ls, st, h, c, s0) := by
  obtain ⟨hx, hb, hml, hown, hts, hW, hR, hlk, htr, hin⟩ := C
  have w1 := am_pI_inv w
  clear w
  obtain ⟨i, r, rfl, w⟩ := w1
  have w1 := am_pR_inv w
  clear w
  obtain ⟨a, r, rfl, ⟨ht, hi0, hi1⟩, w⟩ := w1
  intro H locs arr sv hH hS hL hst hc hs0
  dsimp only at hH hL hst hc hs0 ⊢
  have hq := am_RS_inv hst
  clear hst
  obtain ⟨VI, sv, rfl, hVI, hst⟩ := hq
  have hq := am_RS_inv hst
  clear hst
  obtain ⟨VA, sv, rfl, hVA, hst⟩ := hq
  obtain ⟨x, rfl, rfl⟩ := hVI
  obtain ⟨g1, g2⟩ := hH.2.2 a (by omega)
  obtain ⟨n, f, b1, b2, b3, b4⟩ := (am_CO_j ht).mp g2
  have hVa : VA = .ref (ea G a) := by
    exact am_RVr hVA (hH.o (a := a) (by omega)).1
  subst hVa
  have hK : va_K (eD G) vwCl [(eI G, .int), (eY G, .byte), (eJ G, .long), (eZ G, .boolean), (eQ G, .array .int), (eR G, .array .boolean)] s := hW.1.1
  rw [b2] at hi1
  obtain ⟨k1, k2, k3⟩ := am_ix hi0 hi1
  have hP : va_P (eD G) vwCl [(ea G a, .inl (eJ G, n, .inr (.inl f)))] H := by
    intro k y hk
    match k, hk with
    | 0, hk =>
      cases hk
      exact b1
    | k + 1, hk => simp at hk
  refine va_lald hx hb hK hP 0 2 rfl rfl k1 hd ?_
  exact w H locs arr _ hH hS hL ⟨⟨_, rfl, by rw [← k3]; exact b4 _ k2⟩, hst⟩ hc hs0
theorem am_i_iastore (C : am_Cx G l d m p R s mth args meth cd) (hd : decode (am_cd m) pc = .ok (.iastore, 1)) (w : am_stp X (am_Gl G m p l e R s mth args below meth cd Q) d hs K (am_pI st fun v r => am_pI r fun i r => am_pR r fun a r => am_ck (am_t h a = 20 ∧ 0 ≤ i ∧ i < am_l h a) (pc + 1, ls, r, am_w h a i (v), c, s0))) : am_Gl G m p l e R s mth args below meth cd Q (pc, ls, st, h, c, s0) := by
  obtain ⟨hx, hb, hml, hown, hts, hW, hR, hlk, htr, hin⟩ := C
  have w1 := am_pI_inv w
  clear w
  obtain ⟨v, r, rfl, w⟩ := w1
  have w1 := am_pI_inv w
  clear w
  obtain ⟨i, r, rfl, w⟩ := w1
  have w1 := am_pR_inv w
  clear w
  obtain ⟨a, r, rfl, ⟨ht, hi0, hi1⟩, w⟩ := w1
  intro H locs arr sv hH hS hL hst hc hs0
  dsimp only at hH hL hst hc hs0 ⊢
  have hq := am_RS_inv hst
  clear hst
  obtain ⟨VV, sv, rfl, hVV, hst⟩ := hq
  have hq := am_RS_inv hst
  clear hst
  obtain ⟨VI, sv, rfl, hVI, hst⟩ := hq
  have hq := am_RS_inv hst
  clear hst
  obtain ⟨VA, sv, rfl, hVA, hst⟩ := hq
  obtain ⟨x, rfl, rfl⟩ := hVV
  obtain ⟨i, rfl, rfl⟩ := hVI
  obtain ⟨g1, g2⟩ := hH.2.2 a (by omega)
  obtain ⟨n, f, b1, b2, b3, b4⟩ := (am_CO_i ht).mp g2
  have hVa : VA = .ref (ea G a) := by
    exact am_RVr hVA (hH.o (a := a) (by omega)).1
  subst hVa
  have hK : va_K (eD G) vwCl [(eI G, .int), (eY G, .byte), (eJ G, .long), (eZ G, .boolean), (eQ G, .array .int), (eR G, .array .boolean)] s := hW.1.1
  rw [b2] at hi1
  obtain ⟨k1, k2, k3⟩ := am_ix hi0 hi1
  refine W.iast hx hb b1 ((hK.2 0 _ rfl).1 n (fun j => .int (f j))) (fun q => by cases q) (by show ¬ (i < 0 ∨ (arrV _ _ _).slots.size ≤ _); rw [arrV_size]; exact k1) rfl rfl hd fun H1 e1 z oq => ?_
  refine w H1 _ arr sv ?_ (hS.put z oq (hH.w (a := a) ⟨by omega, by omega, by omega⟩).2.1) hL hst hc hs0
  refine am_HM_set hH (a := a) ⟨by omega, by omega, by omega⟩ z oq rfl rfl (fun _ => rfl) (fun _ => rfl) (fun _ => rfl) (fun b j hb => by rw [am_m_w, if_neg (fun z => hb z.1)]) ?_
  refine (am_CO_i (h := am_w h a i.toInt _) (show am_t (am_w h a i.toInt _) a = 20 from ht)).mpr ⟨n, fun j => if j = i.toNatClampNeg then x else f j, ?_, b2, b3, fun j hj => ?_⟩
  · rw [e1, arrV_store]
    congr 2
    funext q
    by_cases hq : q = i.toNatClampNeg
    · simp [updV, hq]
    · simp [updV, hq]
  · rw [am_m_w]
    dsimp only
    by_cases hji : j = i.toNatClampNeg
    · rw [if_pos ⟨rfl, by omega⟩, if_pos hji]
      exact ⟨rfl, Int32.le_toInt x, Int32.toInt_le x⟩
    · rw [if_neg (fun z => hji (by omega)), if_neg hji]
      exact b4 j hj
theorem am_i_bastore (C : am_Cx G l d m p R s mth args meth cd) (hd : decode (am_cd m) pc = .ok (.bastore, 1)) (w : am_stp X (am_Gl G m p l e R s mth args below meth cd Q) d hs K (am_pI st fun v r => am_pI r fun i r => am_pR r fun a r => am_ck (am_t h a = 21 ∧ 0 ≤ i ∧ i < am_l h a) (pc + 1, ls, r, am_w h a i (am_i2b v), c, s0))) : am_Gl G m p l e R s mth args below meth cd Q (pc, ls, st, h, c, s0) := by
  obtain ⟨hx, hb, hml, hown, hts, hW, hR, hlk, htr, hin⟩ := C
  have w1 := am_pI_inv w
  clear w
  obtain ⟨v, r, rfl, w⟩ := w1
  have w1 := am_pI_inv w
  clear w
  obtain ⟨i, r, rfl, w⟩ := w1
  have w1 := am_pR_inv w
  clear w
  obtain ⟨a, r, rfl, ⟨ht, hi0, hi1⟩, w⟩ := w1
  intro H locs arr sv hH hS hL hst hc hs0
  dsimp only at hH hL hst hc hs0 ⊢
  have hq := am_RS_inv hst
  clear hst
  obtain ⟨VV, sv, rfl, hVV, hst⟩ := hq
  have hq := am_RS_inv hst
  clear hst
  obtain ⟨VI, sv, rfl, hVI, hst⟩ := hq
  have hq := am_RS_inv hst
  clear hst
  obtain ⟨VA, sv, rfl, hVA, hst⟩ := hq
  obtain ⟨x, rfl, rfl⟩ := hVV
  obtain ⟨i, rfl, rfl⟩ := hVI
  obtain ⟨g1, g2⟩ := hH.2.2 a (by omega)
  obtain ⟨n, f, b1, b2, b3, b4⟩ := (am_CO_y ht).mp g2
  have hVa : VA = .ref (ea G a) := by
    exact am_RVr hVA (hH.o (a := a) (by omega)).1
  subst hVa
  have hK : va_K (eD G) vwCl [(eI G, .int), (eY G, .byte), (eJ G, .long), (eZ G, .boolean), (eQ G, .array .int), (eR G, .array .boolean)] s := hW.1.1
  rw [b2] at hi1
  obtain ⟨k1, k2, k3⟩ := am_ix hi0 hi1
  refine W.bast hx hb b1 ((hK.2 1 _ rfl).1 n (fun j => .int (f j))) (fun q => by cases q) (by show ¬ (i < 0 ∨ (arrV _ _ _).slots.size ≤ _); rw [arrV_size]; exact k1) rfl rfl hd fun H1 e1 z oq => ?_
  refine w H1 _ arr sv ?_ (hS.put z oq (hH.w (a := a) ⟨by omega, by omega, by omega⟩).2.1) hL hst hc hs0
  refine am_HM_set hH (a := a) ⟨by omega, by omega, by omega⟩ z oq rfl rfl (fun _ => rfl) (fun _ => rfl) (fun _ => rfl) (fun b j hb => by rw [am_m_w, if_neg (fun z => hb z.1)]) ?_
  refine (am_CO_y (h := am_w h a i.toInt _) (show am_t (am_w h a i.toInt _) a = 21 from ht)).mpr ⟨n, fun j => if j = i.toNatClampNeg then x.toInt8.toInt32 else f j, ?_, b2, b3, fun j hj => ?_⟩
  · rw [e1, arrV_store]
    congr 2
    funext q
    by_cases hq : q = i.toNatClampNeg
    · simp [updV, hq, narrow]
    · simp [updV, hq]
  · rw [am_m_w]
    dsimp only
    by_cases hji : j = i.toNatClampNeg
    · rw [if_pos ⟨rfl, by omega⟩, if_pos hji]
      refine ⟨by rw [Int8.toInt_toInt32, Int32.toInt_toInt8]; rfl, ?_, ?_⟩
      · rw [Int8.toInt_toInt32]; exact Int8.le_toInt _
      · rw [Int8.toInt_toInt32]; have := Int8.toInt_lt x.toInt8; omega
    · rw [if_neg (fun z => hji (by omega)), if_neg hji]
      exact b4 j hj
theorem am_i_lastore (C : am_Cx G l d m p R s mth args meth cd) (hd : decode (am_cd m) pc = .ok (.lastore, 1)) (w : am_stp X (am_Gl G m p l e R s mth args below meth cd Q) d hs K (am_pL st fun v r => am_pI r fun i r => am_pR r fun a r => am_ck (am_t h a = 22 ∧ 0 ≤ i ∧ i < am_l h a) (pc + 1, ls, r, am_w h a i (v), c, s0))) : am_Gl G m p l e R s mth args below meth cd Q (pc, ls, st, h, c, s0) := by
  obtain ⟨hx, hb, hml, hown, hts, hW, hR, hlk, htr, hin⟩ := C
  have w1 := am_pL_inv w
  clear w
  obtain ⟨v, r, rfl, w⟩ := w1
  have w1 := am_pI_inv w
  clear w
  obtain ⟨i, r, rfl, w⟩ := w1
  have w1 := am_pR_inv w
  clear w
  obtain ⟨a, r, rfl, ⟨ht, hi0, hi1⟩, w⟩ := w1
  intro H locs arr sv hH hS hL hst hc hs0
  dsimp only at hH hL hst hc hs0 ⊢
  have hq := am_RS_inv hst
  clear hst
  obtain ⟨VV, sv, rfl, hVV, hst⟩ := hq
  have hq := am_RS_inv hst
  clear hst
  obtain ⟨VI, sv, rfl, hVI, hst⟩ := hq
  have hq := am_RS_inv hst
  clear hst
  obtain ⟨VA, sv, rfl, hVA, hst⟩ := hq
  obtain ⟨x, rfl, rfl⟩ := hVV
  obtain ⟨i, rfl, rfl⟩ := hVI
  obtain ⟨g1, g2⟩ := hH.2.2 a (by omega)
  obtain ⟨n, f, b1, b2, b3, b4⟩ := (am_CO_j ht).mp g2
  have hVa : VA = .ref (ea G a) := by
    exact am_RVr hVA (hH.o (a := a) (by omega)).1
  subst hVa
  have hK : va_K (eD G) vwCl [(eI G, .int), (eY G, .byte), (eJ G, .long), (eZ G, .boolean), (eQ G, .array .int), (eR G, .array .boolean)] s := hW.1.1
  rw [b2] at hi1
  obtain ⟨k1, k2, k3⟩ := am_ix hi0 hi1
  refine W.last hx hb b1 ((hK.2 2 _ rfl).1 n (fun j => .long (f j))) (fun q => by cases q) (by show ¬ (i < 0 ∨ (arrV _ _ _).slots.size ≤ _); rw [arrV_size]; exact k1) rfl rfl hd fun H1 e1 z oq => ?_
  refine w H1 _ arr sv ?_ (hS.put z oq (hH.w (a := a) ⟨by omega, by omega, by omega⟩).2.1) hL hst hc hs0
  refine am_HM_set hH (a := a) ⟨by omega, by omega, by omega⟩ z oq rfl rfl (fun _ => rfl) (fun _ => rfl) (fun _ => rfl) (fun b j hb => by rw [am_m_w, if_neg (fun z => hb z.1)]) ?_
  refine (am_CO_j (h := am_w h a i.toInt _) (show am_t (am_w h a i.toInt _) a = 22 from ht)).mpr ⟨n, fun j => if j = i.toNatClampNeg then x else f j, ?_, b2, b3, fun j hj => ?_⟩
  · rw [e1, arrV_store]
    congr 2
    funext q
    by_cases hq : q = i.toNatClampNeg
    · simp [updV, hq]
    · simp [updV, hq]
  · rw [am_m_w]
    dsimp only
    by_cases hji : j = i.toNatClampNeg
    · rw [if_pos ⟨rfl, by omega⟩, if_pos hji]
      try rfl
    · rw [if_neg (fun z => hji (by omega)), if_neg hji]
      exact b4 j hj
theorem am_i_zaload (C : am_Cx G l d m p R s mth args meth cd) (hd : decode (am_cd m) pc = .ok (.baload, 1)) (w : am_stp X (am_Gl G m p l e R s mth args below meth cd Q) d hs K (am_pI st fun i r => am_pR r fun a r => am_ck (am_t h a = 23 ∧ 0 ≤ i ∧ i < am_l h a) (pc + 1, ls, (0, am_m h a i) :: r, h, c, s0))) : am_Gl G m p l e R s mth args below meth cd Q (pc, ls, st, h, c, s0) := by
  obtain ⟨hx, hb, hml, hown, hts, hW, hR, hlk, htr, hin⟩ := C
  have w1 := am_pI_inv w
  clear w
  obtain ⟨i, r, rfl, w⟩ := w1
  have w1 := am_pR_inv w
  clear w
  obtain ⟨a, r, rfl, ⟨ht, hi0, hi1⟩, w⟩ := w1
  intro H locs arr sv hH hS hL hst hc hs0
  dsimp only at hH hL hst hc hs0 ⊢
  have hq := am_RS_inv hst
  clear hst
  obtain ⟨VI, sv, rfl, hVI, hst⟩ := hq
  have hq := am_RS_inv hst
  clear hst
  obtain ⟨VA, sv, rfl, hVA, hst⟩ := hq
  obtain ⟨x, rfl, rfl⟩ := hVI
  obtain ⟨g1, g2⟩ := hH.2.2 a (by omega)
  obtain ⟨n, f, b1, b2, b3, b4⟩ := (am_CO_z ht).mp g2
  have hVa : VA = .ref (ea G a) := by
    exact am_RVr hVA (hH.o (a := a) (by omega)).1
  subst hVa
  have hK : va_K (eD G) vwCl [(eI G, .int), (eY G, .byte), (eJ G, .long), (eZ G, .boolean), (eQ G, .array .int), (eR G, .array .boolean)] s := hW.1.1
  rw [b2] at hi1
  obtain ⟨k1, k2, k3⟩ := am_ix hi0 hi1
  have hP : va_P (eD G) vwCl [(ea G a, .inl (eZ G, n, .inl f))] H := by
    intro k y hk
    match k, hk with
    | 0, hk =>
      cases hk
      exact b1
    | k + 1, hk => simp at hk
  refine va_zald hx hb hK hP 0 3 rfl rfl k1 hd ?_
  exact w H locs arr _ hH hS hL ⟨⟨_, rfl, by rw [← k3]; exact (b4 _ k2).1⟩, hst⟩ hc hs0
theorem am_i_zastore (C : am_Cx G l d m p R s mth args meth cd) (hd : decode (am_cd m) pc = .ok (.bastore, 1)) (w : am_stp X (am_Gl G m p l e R s mth args below meth cd Q) d hs K (am_pI st fun v r => am_pI r fun i r => am_pR r fun a r => am_ck (am_t h a = 23 ∧ (v = 0 ∨ v = 1) ∧ 0 ≤ i ∧ i < am_l h a) (pc + 1, ls, r, am_w h a i v, c, s0))) : am_Gl G m p l e R s mth args below meth cd Q (pc, ls, st, h, c, s0) := by
  obtain ⟨hx, hb, hml, hown, hts, hW, hR, hlk, htr, hin⟩ := C
  have w1 := am_pI_inv w
  clear w
  obtain ⟨v, r, rfl, w⟩ := w1
  have w1 := am_pI_inv w
  clear w
  obtain ⟨i, r, rfl, w⟩ := w1
  have w1 := am_pR_inv w
  clear w
  obtain ⟨a, r, rfl, ⟨ht, hv01, hi0, hi1⟩, w⟩ := w1
  intro H locs arr sv hH hS hL hst hc hs0
  dsimp only at hH hL hst hc hs0 ⊢
  have hq := am_RS_inv hst
  clear hst
  obtain ⟨VV, sv, rfl, hVV, hst⟩ := hq
  have hq := am_RS_inv hst
  clear hst
  obtain ⟨VI, sv, rfl, hVI, hst⟩ := hq
  have hq := am_RS_inv hst
  clear hst
  obtain ⟨VA, sv, rfl, hVA, hst⟩ := hq
  obtain ⟨x, rfl, rfl⟩ := hVV
  obtain ⟨i, rfl, rfl⟩ := hVI
  obtain ⟨g1, g2⟩ := hH.2.2 a (by omega)
  obtain ⟨n, f, b1, b2, b3, b4⟩ := (am_CO_z ht).mp g2
  have hVa : VA = .ref (ea G a) := by
    exact am_RVr hVA (hH.o (a := a) (by omega)).1
  subst hVa
  have hK : va_K (eD G) vwCl [(eI G, .int), (eY G, .byte), (eJ G, .long), (eZ G, .boolean), (eQ G, .array .int), (eR G, .array .boolean)] s := hW.1.1
  rw [b2] at hi1
  obtain ⟨k1, k2, k3⟩ := am_ix hi0 hi1
  refine W.zast hx hb b1 ((hK.2 3 _ rfl).1 n (fun j => .int (f j))) (fun q => by cases q) (by show ¬ (i < 0 ∨ (arrV _ _ _).slots.size ≤ _); rw [arrV_size]; exact k1) rfl rfl hd fun H1 e1 z oq => ?_
  refine w H1 _ arr sv ?_ (hS.put z oq (hH.w (a := a) ⟨by omega, by omega, by omega⟩).2.1) hL hst hc hs0
  refine am_HM_set hH (a := a) ⟨by omega, by omega, by omega⟩ z oq rfl rfl (fun _ => rfl) (fun _ => rfl) (fun _ => rfl) (fun b j hb => by rw [am_m_w, if_neg (fun z => hb z.1)]) ?_
  refine (am_CO_z (h := am_w h a i.toInt _) (show am_t (am_w h a i.toInt _) a = 23 from ht)).mpr ⟨n, fun j => if j = i.toNatClampNeg then x else f j, ?_, b2, b3, fun j hj => ?_⟩
  · rw [e1, arrV_store]
    congr 2
    funext q
    by_cases hq : q = i.toNatClampNeg
    · rcases hv01 with hv | hv
      · have ex : x = 0 := Int32.toInt_inj.mp hv
        subst ex
        simp [updV, hq, narrow]
      · have ex : x = 1 := Int32.toInt_inj.mp hv
        subst ex
        simp [updV, hq, narrow]
    · simp [updV, hq]
  · rw [am_m_w]
    dsimp only
    by_cases hji : j = i.toNatClampNeg
    · rw [if_pos ⟨rfl, by omega⟩, if_pos hji]
      exact ⟨rfl, by omega, by omega⟩
    · rw [if_neg (fun z => hji (by omega)), if_neg hji]
      exact b4 j hj
end SIM
