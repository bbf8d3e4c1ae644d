/-! ===== new cells, constants, texts, the JDK's small members, switches ===== -/
theorem am_ok_keep {G : am_En} {h h1 : AH} {H H1 : Heap} {b : Int} (w : am_ok G h H b) (hn : am_n h ≤ am_n h1) (hz : H.size ≤ H1.size) (ht : am_t h1 b = am_t h b) : am_ok G h1 H1 b := by
  obtain ⟨w1, w2⟩ := w
  refine ⟨w1, ?_⟩
  rw [ht]
  rcases w2 with ⟨w2, w3, w4, w5, w6, w7⟩ | w2
  · exact Or.inl ⟨w2, by omega, w4, by omega, w6, w7⟩
  · exact Or.inr w2
theorem am_lt_new {G : am_En} {h : AH} {H : Heap} (hH : am_HM G h H) {b : Int} (hb : am_t h b ≠ 0) (hf : am_fr h) : b < am_n h := by
  obtain ⟨h1, h2⟩ := (hH.2.2 b hb).1
  obtain ⟨-, -, -, p4⟩ := hH.1.new hf
  rcases h2 with ⟨-, h3, -⟩ | ⟨h3, -⟩
  · exact h3
  · omega
theorem am_HM_new {G : am_En} {h : AH} {H H1 : Heap} {t : Nat} {n : Int} {f : Int → Int} (hH : am_HM G h H) (hf : am_fr h) (ht0 : am_wt t) (hz : H1.size = H.size + 1) (o1 : ∀ q : Nat, q < H.size → H1[q]? = H[q]?) (hC : am_CO G (am_a h t n f) (am_n h) H1) : am_HM G (am_a h t n f) H1 := by
  have hH0 := hH
  obtain ⟨g1, g3, g5⟩ := hH
  obtain ⟨p1, p2, p3, p4⟩ := g1.new hf
  have en : am_n (am_a h t n f) = am_n h + 1 := rfl
  refine ⟨?_, g3, fun b hb => ?_⟩
  · unfold am_ph at g1 ⊢
    rw [en, hz]
    omega
  · by_cases hbn : b = am_n h
    · have et : am_t (am_a h t n f) b = t := if_pos hbn
      rw [hbn]
      refine ⟨⟨p2, Or.inl ⟨p4, by rw [en]; omega, by omega, by omega, ?_, ?_⟩⟩, hC⟩
      · intro z z2
        unfold am_ph at g1
        omega
      · rw [← hbn, et]
        exact ht0.2
    · have et : am_t (am_a h t n f) b = am_t h b := if_neg hbn
      rw [et] at hb
      obtain ⟨b1, b2⟩ := g5 b hb
      exact ⟨am_ok_keep b1 (by rw [en]; omega) (by omega) et, am_CO_kept b2 (o1 _ (hH0.o hb).2) et (if_neg hbn) (fun j => if_neg hbn)⟩
section SIM
variable {G : am_En} {l : Launch} {d m : Nat} {p : Program} {e : Env} {R : Room} {s : State} {mth : MethodId} {args : Array Value} {below : List Frame} {meth : Method} {cd : Code} {Q : State → Prop} {K : AK} {X : AX} {Z : AC → Prop} {hs : List (Nat × Nat × Nat × Nat)}
variable {pc : Nat} {ls st : List AV} {h : AH} {c s0 : Nat}
theorem am_few_inv {r : List AV} {f : ASh} (w : am_stp X Z d hs K (am_few r f)) : am_cat r ≤ 8 ∧ am_stp X Z d hs K f := by
  unfold am_few at w
  split at w
  · rename_i hh
    exact ⟨Nat.le_of_ble_eq_true hh, w⟩
  · exact w.elim
theorem am_RV_cat {v : AV} {V : Value} (h : am_RV G v V) : V.category = am_cat [v] := by
  obtain ⟨t, a⟩ := v
  match t, h with
  | 0, h => obtain ⟨x, rfl, -⟩ := h; rfl
  | 1, h => obtain ⟨x, rfl, -⟩ := h; rfl
  | 2, h => rcases h with ⟨-, rfl⟩ | ⟨-, rfl⟩ <;> rfl
  | 3, h => obtain ⟨x, rfl, -⟩ := h; rfl
  | 4, h => have h : V = .ref (eb G) := h; subst h; rfl
  | 5, h => obtain ⟨-, -, rfl⟩ := h; rfl
  | 6, h => exact h.elim
  | 7, h => obtain ⟨-, -, rfl⟩ := h; rfl
  | 8, h => exact h.elim
  | 9, h => exact h.elim
  | 10, h => obtain ⟨q, rfl⟩ := h; rfl
  | 11, h => rcases h with rfl | ⟨q, rfl⟩ <;> rfl
  | n + 12, h => exact h.elim
theorem am_RS_cat : ∀ {r : List AV} {sv : List Value}, am_RS G r sv → (sv.map fun v => v.category).sum = am_cat r
  | [], [], _ => rfl
  | [], _ :: _, h => h.elim
  | _ :: _, [], h => h.elim
  | v :: r, V :: sv, h => by
    have e1 := am_RV_cat h.1
    have e2 := am_RS_cat h.2
    rw [List.map_cons, List.sum_cons, e1, e2]
    obtain ⟨t, a⟩ := v
    simp only [am_cat]
    omega
theorem am_i_newarray_i (C : am_Cx G l d m p R s mth args meth cd) (hw : Cond.arrayClass .int ∈ am_W) (hd : decode (am_cd m) pc = .ok (.newarray .int, 2)) (w : am_stp X (am_Gl G m p l e R s mth args below meth cd Q) d hs K (am_pI st fun n r => am_ck (((0 ≤ n ∧ n ≤ 4096) ∧ am_fr h) ∧ c + 1 ≤ (am_cap m).1 ∧ s0 + n.toNat ≤ (am_cap m).2) (pc + 2, ls, (2, am_n h) :: r, am_a h 20 n (fun _ => 0), c + 1, s0 + n.toNat))) : am_Gl G m p l e R s mth args below meth cd Q (pc, ls, st, h, c, s0) := by
  obtain ⟨hx, hb, hml, hown, hts, hW, hR, hlk, htr, hin⟩ := C
  have w1 := am_pI_inv w
  clear w
  obtain ⟨n, r, rfl, ⟨⟨⟨hn0, hn1⟩, hfr⟩, hc1, hs1⟩, w⟩ := w1
  intro H locs arr sv hH hS hL hst hc hs0
  dsimp only at hH hL hst hc hs0 ⊢
  have hq := am_RS_inv hst
  clear hst
  obtain ⟨VN, sv, rfl, hVN, hst⟩ := hq
  obtain ⟨x, rfl, rfl⟩ := hVN
  have hK : va_K (eD G) vwCl [(eI G, .int), (eY G, .byte), (eJ G, .long), (eZ G, .boolean), (eQ G, .array .int), (eR G, .array .boolean)] s := hW.1.1
  obtain ⟨hsz, hn9, -, -⟩ := hH.1.new hfr
  have hsz := hsz.symm
  have ex0 : x.toNatClampNeg = x.toInt.toNat := rfl
  have hx0 : ¬ x < 0 := fun z => by
    have := Int32.lt_iff_toInt_lt.mp z
    have e0 : (0 : Int32).toInt = 0 := rfl
    omega
  refine va_newaK hx hb (atype := .int) (hts _ hw) rfl hd rfl hx0 rfl (Nat.le_trans (Nat.mul_le_mul_right _ (show x.toNatClampNeg ≤ 4096 by omega)) (by decide)) (by omega) (by omega) hsz fun H1 cA e1 z1 o1 hAr hNm => ?_
  have ecA : cA = eI G := by
    have h2 : s.vm.findClass ("[" ++ (FieldType.int).toString) = some (eI G) := (hK.2 0 _ rfl).2
    exact Option.some.inj (hNm.symm.trans h2)
  subst ecA
  refine w H1 _ arr _ (am_HM_new hH hfr ⟨by omega, by omega, by omega⟩ (by omega) (fun q hq => o1 q (by omega)) ?_) ⟨Nat.le_trans hS.1 (by omega), fun q h1 h2 => (o1 q (by have := hS.1; omega)).trans (hS.2.1 q h1 h2), hS.2.2⟩ hL ⟨Or.inr ⟨hn9, rfl⟩, hst⟩ (by simp only; omega) (by simp only; omega)
  have ht : am_t (am_a h 20 x.toInt (fun _ => 0)) (am_n h) = 20 := if_pos rfl
  refine (am_CO_i ht).mpr ⟨x.toNatClampNeg, fun _ => 0, e1, ?_, by omega, fun j hj => ⟨if_pos rfl, by show _ ≤ (0 : Int32).toInt; decide, by show (0 : Int32).toInt ≤ _; decide⟩⟩
  have el : am_l (am_a h 20 x.toInt (fun _ => 0)) (am_n h) = x.toInt := if_pos rfl
  rw [el]
  omega
theorem am_i_newarray_y (C : am_Cx G l d m p R s mth args meth cd) (hw : Cond.arrayClass .byte ∈ am_W) (hd : decode (am_cd m) pc = .ok (.newarray .byte, 2)) (w : am_stp X (am_Gl G m p l e R s mth args below meth cd Q) d hs K (am_pI st fun n r => am_ck (((0 ≤ n ∧ n ≤ 4096) ∧ am_fr h) ∧ c + 1 ≤ (am_cap m).1 ∧ s0 + n.toNat ≤ (am_cap m).2) (pc + 2, ls, (2, am_n h) :: r, am_a h 21 n (fun _ => 0), c + 1, s0 + n.toNat))) : am_Gl G m p l e R s mth args below meth cd Q (pc, ls, st, h, c, s0) := by
  obtain ⟨hx, hb, hml, hown, hts, hW, hR, hlk, htr, hin⟩ := C
  have w1 := am_pI_inv w
  clear w
  obtain ⟨n, r, rfl, ⟨⟨⟨hn0, hn1⟩, hfr⟩, hc1, hs1⟩, w⟩ := w1
  intro H locs arr sv hH hS hL hst hc hs0
  dsimp only at hH hL hst hc hs0 ⊢
  have hq := am_RS_inv hst
  clear hst
  obtain ⟨VN, sv, rfl, hVN, hst⟩ := hq
  obtain ⟨x, rfl, rfl⟩ := hVN
  have hK : va_K (eD G) vwCl [(eI G, .int), (eY G, .byte), (eJ G, .long), (eZ G, .boolean), (eQ G, .array .int), (eR G, .array .boolean)] s := hW.1.1
  obtain ⟨hsz, hn9, -, -⟩ := hH.1.new hfr
  have hsz := hsz.symm
  have ex0 : x.toNatClampNeg = x.toInt.toNat := rfl
  have hx0 : ¬ x < 0 := fun z => by
    have := Int32.lt_iff_toInt_lt.mp z
    have e0 : (0 : Int32).toInt = 0 := rfl
    omega
  refine va_newaK hx hb (atype := .byte) (hts _ hw) rfl hd rfl hx0 rfl (Nat.le_trans (Nat.mul_le_mul_right _ (show x.toNatClampNeg ≤ 4096 by omega)) (by decide)) (by omega) (by omega) hsz fun H1 cA e1 z1 o1 hAr hNm => ?_
  have ecA : cA = eY G := by
    have h2 : s.vm.findClass ("[" ++ (FieldType.byte).toString) = some (eY G) := (hK.2 1 _ rfl).2
    exact Option.some.inj (hNm.symm.trans h2)
  subst ecA
  refine w H1 _ arr _ (am_HM_new hH hfr ⟨by omega, by omega, by omega⟩ (by omega) (fun q hq => o1 q (by omega)) ?_) ⟨Nat.le_trans hS.1 (by omega), fun q h1 h2 => (o1 q (by have := hS.1; omega)).trans (hS.2.1 q h1 h2), hS.2.2⟩ hL ⟨Or.inr ⟨hn9, rfl⟩, hst⟩ (by simp only; omega) (by simp only; omega)
  have ht : am_t (am_a h 21 x.toInt (fun _ => 0)) (am_n h) = 21 := if_pos rfl
  refine (am_CO_y ht).mpr ⟨x.toNatClampNeg, fun _ => 0, e1, ?_, by omega, fun j hj => ⟨if_pos rfl, by show _ ≤ (0 : Int32).toInt; decide, by show (0 : Int32).toInt ≤ _; decide⟩⟩
  have el : am_l (am_a h 21 x.toInt (fun _ => 0)) (am_n h) = x.toInt := if_pos rfl
  rw [el]
  omega
theorem am_i_newarray_z (C : am_Cx G l d m p R s mth args meth cd) (hw : Cond.arrayClass .boolean ∈ am_W) (hd : decode (am_cd m) pc = .ok (.newarray .boolean, 2)) (w : am_stp X (am_Gl G m p l e R s mth args below meth cd Q) d hs K (am_pI st fun n r => am_ck (((0 ≤ n ∧ n ≤ 4096) ∧ am_fr h) ∧ c + 1 ≤ (am_cap m).1 ∧ s0 + n.toNat ≤ (am_cap m).2) (pc + 2, ls, (2, am_n h) :: r, am_a h 23 n (fun _ => 0), c + 1, s0 + n.toNat))) : am_Gl G m p l e R s mth args below meth cd Q (pc, ls, st, h, c, s0) := by
  obtain ⟨hx, hb, hml, hown, hts, hW, hR, hlk, htr, hin⟩ := C
  have w1 := am_pI_inv w
  clear w
  obtain ⟨n, r, rfl, ⟨⟨⟨hn0, hn1⟩, hfr⟩, hc1, hs1⟩, w⟩ := w1
  intro H locs arr sv hH hS hL hst hc hs0
  dsimp only at hH hL hst hc hs0 ⊢
  have hq := am_RS_inv hst
  clear hst
  obtain ⟨VN, sv, rfl, hVN, hst⟩ := hq
  obtain ⟨x, rfl, rfl⟩ := hVN
  have hK : va_K (eD G) vwCl [(eI G, .int), (eY G, .byte), (eJ G, .long), (eZ G, .boolean), (eQ G, .array .int), (eR G, .array .boolean)] s := hW.1.1
  obtain ⟨hsz, hn9, -, -⟩ := hH.1.new hfr
  have hsz := hsz.symm
  have ex0 : x.toNatClampNeg = x.toInt.toNat := rfl
  have hx0 : ¬ x < 0 := fun z => by
    have := Int32.lt_iff_toInt_lt.mp z
    have e0 : (0 : Int32).toInt = 0 := rfl
    omega
  refine va_newaK hx hb (atype := .boolean) (hts _ hw) rfl hd rfl hx0 rfl (Nat.le_trans (Nat.mul_le_mul_right _ (show x.toNatClampNeg ≤ 4096 by omega)) (by decide)) (by omega) (by omega) hsz fun H1 cA e1 z1 o1 hAr hNm => ?_
  have ecA : cA = eZ G := by
    have h2 : s.vm.findClass ("[" ++ (FieldType.boolean).toString) = some (eZ G) := (hK.2 3 _ rfl).2
    exact Option.some.inj (hNm.symm.trans h2)
  subst ecA
  refine w H1 _ arr _ (am_HM_new hH hfr ⟨by omega, by omega, by omega⟩ (by omega) (fun q hq => o1 q (by omega)) ?_) ⟨Nat.le_trans hS.1 (by omega), fun q h1 h2 => (o1 q (by have := hS.1; omega)).trans (hS.2.1 q h1 h2), hS.2.2⟩ hL ⟨Or.inr ⟨hn9, rfl⟩, hst⟩ (by simp only; omega) (by simp only; omega)
  have ht : am_t (am_a h 23 x.toInt (fun _ => 0)) (am_n h) = 23 := if_pos rfl
  refine (am_CO_z ht).mpr ⟨x.toNatClampNeg, fun _ => 0, e1, ?_, by omega, fun j hj => ⟨if_pos rfl, by show _ ≤ (0 : Int32).toInt; decide, by show (0 : Int32).toInt ≤ _; decide⟩⟩
  have el : am_l (am_a h 23 x.toInt (fun _ => 0)) (am_n h) = x.toInt := if_pos rfl
  rw [el]
  omega
theorem am_i_newarray_j (C : am_Cx G l d m p R s mth args meth cd) (hw : Cond.arrayClass .long ∈ am_W) (hd : decode (am_cd m) pc = .ok (.newarray .long, 2)) (w : am_stp X (am_Gl G m p l e R s mth args below meth cd Q) d hs K (am_pI st fun n r => am_ck (((0 ≤ n ∧ n ≤ 4096) ∧ am_fr h) ∧ c + 1 ≤ (am_cap m).1 ∧ s0 + n.toNat ≤ (am_cap m).2) (pc + 2, ls, (2, am_n h) :: r, am_a h 22 n (fun _ => 0), c + 1, s0 + n.toNat))) : am_Gl G m p l e R s mth args below meth cd Q (pc, ls, st, h, c, s0) := by
  obtain ⟨hx, hb, hml, hown, hts, hW, hR, hlk, htr, hin⟩ := C
  have w1 := am_pI_inv w
  clear w
  obtain ⟨n, r, rfl, ⟨⟨⟨hn0, hn1⟩, hfr⟩, hc1, hs1⟩, w⟩ := w1
  intro H locs arr sv hH hS hL hst hc hs0
  dsimp only at hH hL hst hc hs0 ⊢
  have hq := am_RS_inv hst
  clear hst
  obtain ⟨VN, sv, rfl, hVN, hst⟩ := hq
  obtain ⟨x, rfl, rfl⟩ := hVN
  have hK : va_K (eD G) vwCl [(eI G, .int), (eY G, .byte), (eJ G, .long), (eZ G, .boolean), (eQ G, .array .int), (eR G, .array .boolean)] s := hW.1.1
  obtain ⟨hsz, hn9, -, -⟩ := hH.1.new hfr
  have hsz := hsz.symm
  have ex0 : x.toNatClampNeg = x.toInt.toNat := rfl
  have hx0 : ¬ x < 0 := fun z => by
    have := Int32.lt_iff_toInt_lt.mp z
    have e0 : (0 : Int32).toInt = 0 := rfl
    omega
  refine va_newaK hx hb (atype := .long) (hts _ hw) rfl hd rfl hx0 rfl (Nat.le_trans (Nat.mul_le_mul_right _ (show x.toNatClampNeg ≤ 4096 by omega)) (by decide)) (by omega) (by omega) hsz fun H1 cA e1 z1 o1 hAr hNm => ?_
  have ecA : cA = eJ G := by
    have h2 : s.vm.findClass ("[" ++ (FieldType.long).toString) = some (eJ G) := (hK.2 2 _ rfl).2
    exact Option.some.inj (hNm.symm.trans h2)
  subst ecA
  refine w H1 _ arr _ (am_HM_new hH hfr ⟨by omega, by omega, by omega⟩ (by omega) (fun q hq => o1 q (by omega)) ?_) ⟨Nat.le_trans hS.1 (by omega), fun q h1 h2 => (o1 q (by have := hS.1; omega)).trans (hS.2.1 q h1 h2), hS.2.2⟩ hL ⟨Or.inr ⟨hn9, rfl⟩, hst⟩ (by simp only; omega) (by simp only; omega)
  have ht : am_t (am_a h 22 x.toInt (fun _ => 0)) (am_n h) = 22 := if_pos rfl
  refine (am_CO_j ht).mpr ⟨x.toNatClampNeg, fun _ => 0, e1, ?_, by omega, fun j hj => if_pos rfl⟩
  have el : am_l (am_a h 22 x.toInt (fun _ => 0)) (am_n h) = x.toInt := if_pos rfl
  rw [el]
  omega
theorem am_i_new (C : am_Cx G l d m p R s mth args meth cd) {idx r1 r2 : Nat} {q : vw_C} (f1 : vwCl[r1 - 1]? = some q) (f2 : q.2.2 = r2) (f5 : 1 ≤ r1) (f6 : r1 ≤ 9) (f7 : ∀ w ∈ u_ws q.1 q.2.1 q.2.2, w ∈ am_W) (ty0 : Nat → FieldType) (hty : ∀ k, k < q.2.2 → parseFieldDescriptor (q.2.1 k).2.2.1 = some (ty0 k)) (hdf : ∀ k : Nat, k < q.2.2 → am_RV G ((am_ft r1).getD k 0, am_df r1 (k : Int)) (defaultValue (ty0 k))) (hw1 : Cond.classLink (am_mn m).cls idx q.1 ∈ am_W) (hw2 : Cond.instantiable q.1 q.2.2 ∈ am_W) (hw3 : Cond.initialized q.1 ∈ am_W) (hd : decode (am_cd m) pc = .ok (.new idx, 3)) (w : am_stp X (am_Gl G m p l e R s mth args below meth cd Q) d hs K (am_ck (am_fr h ∧ c + 1 ≤ (am_cap m).1 ∧ s0 + r2 ≤ (am_cap m).2) (pc + 3, ls, (2, am_n h) :: st, am_a h r1 (r2 : Int) (am_df r1), c + 1, s0 + r2))) : am_Gl G m p l e R s mth args below meth cd Q (pc, ls, st, h, c, s0) := by
  obtain ⟨hx, hb, hml, hown, hts, hW, hR, hlk, htr, hin⟩ := C
  obtain ⟨⟨hfr, hc1, hs1⟩, w⟩ := w
  intro H locs arr sv hH hS hL hst hc hs0
  dsimp only at hH hL hst hc hs0 ⊢
  have hK : va_K (eD G) vwCl [(eI G, .int), (eY G, .byte), (eJ G, .long), (eZ G, .boolean), (eQ G, .array .int), (eR G, .array .boolean)] s := hW.1.1
  obtain ⟨hsz, hn9, -, -⟩ := hH.1.new hfr
  have hsz := hsz.symm
  subst f2
  have hKn := hK.1 (r1 - 1) _ f1
  refine W.newcK hx hb hown (hts _ hw1) (hts _ hw2) (hts _ hw3) rfl hd (by omega) (by omega) hKn.2.1 hsz fun H1 kC hkC e1 z1 o1 => ?_
  refine w H1 _ arr _ (am_HM_new hH hfr ⟨by omega, by omega, by omega⟩ (by omega) (fun q hq => o1 q (by omega)) ?_) ⟨Nat.le_trans hS.1 (by omega), fun q h1 h2 => (o1 q (by have := hS.1; omega)).trans (hS.2.1 q h1 h2), hS.2.2⟩ hL ⟨Or.inr ⟨hn9, rfl⟩, hst⟩ (by simp only; omega) (by simp only; omega)
  have ht : am_t (am_a h r1 (q.2.2 : Int) (am_df r1)) (am_n h) = r1 := if_pos rfl
  refine (am_CO_obj ht f5 f6).mpr ⟨q, _, f1, u_born ty0 hts f7 hKn hkC e1 hty, fun k hk => ?_⟩
  have em : am_m (am_a h r1 (q.2.2 : Int) (am_df r1)) (am_n h) (k : Int) = am_df r1 (k : Int) := if_pos rfl
  rw [em]
  exact hdf k hk
theorem am_ea_v (G : am_En) (j : Nat) : ea G (-(300000000 + 2 * (j : Int) + 1)) = ev G j := by
  unfold ea
  rw [if_pos (by omega), if_neg (by omega)]
  congr 1
  omega
theorem am_ea_k (G : am_En) (j : Nat) : ea G (-(300000000 + 2 * (j : Int))) = ek G j := by
  unfold ea
  rw [if_pos (by omega), if_pos (by omega)]
  congr 1
  omega
theorem am_tn_eq (j : Nat) : am_tn (j : Int) = ((am_nth am_tx j []).length : Int) := by
  have e : ∀ (l : List (List Int)) (j : Nat), l.getD j [] = am_nth l j [] := by
    intro l
    induction l with
    | nil => intro j; simp [am_nth]
    | cons a r ih =>
      intro j
      cases j with
      | zero => simp [am_nth]
      | succ j => simpa [am_nth] using ih j
  unfold am_tn
  rw [e]
  simp
theorem am_tb_small : ∀ j : Nat, j < 36 → (am_nth am_tx j []).length ≤ 200 ∧ ∀ i : Nat, i < (am_nth am_tx j []).length → 0 ≤ am_tb (j : Int) (i : Int) ∧ am_tb (j : Int) (i : Int) < 128 := by decide +kernel
/-- the bytes of a constant -/
theorem am_cTf {j : Nat} (hW : am_WK G s s.heap) (hj : j < 38) : ∃ N : Nat, va_T .byte (ev G j) N (fun i => .int (Int32.ofInt (am_kc j (i : Int)))) (fun q => eS G ≤ q) s s.heap ∧ am_cn j = (N : Int) ∧ N ≤ 200 ∧ ∀ i : Nat, i < N → 0 ≤ am_kc j (i : Int) ∧ am_kc j (i : Int) < 128 := by
  by_cases h1 : j < 36
  · obtain ⟨-, -, -, s4⟩ := hW.2.1 j h1
    have e : ∀ i : Int, am_kc j i = am_tb (j : Int) i := fun i => if_pos h1
    refine ⟨_, ?_, ?_, (am_tb_small j h1).1, fun i hi => ?_⟩
    · simp only [e]
      exact s4
    · unfold am_cn
      rw [if_pos h1]
      exact am_tn_eq j
    · rw [e]
      exact (am_tb_small j h1).2 i hi
  · by_cases h2 : j = 36
    · subst h2
      refine ⟨100, hW.2.2.1.1.2, rfl, by decide, fun i hi => ?_⟩
      show 0 ≤ 48 + (i : Int) % 10 ∧ _
      have : am_kc 36 (i : Int) = 48 + (i : Int) % 10 := rfl
      omega
    · have h3 : j = 37 := by omega
      subst h3
      refine ⟨100, hW.2.2.1.2.1.2, rfl, by decide, fun i hi => ?_⟩
      have : am_kc 37 (i : Int) = 48 + (i : Int) / 10 := rfl
      omega
theorem am_cT {j : Nat} (hW : am_WK G s s.heap) (hj : j < 38) : ∃ (N : Nat) (f : Nat → Value), va_T .byte (ev G j) N f (fun q => eS G ≤ q) s s.heap ∧ am_cn j = (N : Int) ∧ N ≤ 200 := by
  obtain ⟨N, h1, h2, h3, -⟩ := am_cTf hW hj
  exact ⟨N, _, h1, h2, h3⟩

theorem am_i_alen_at (C : am_Cx G l d m p R s mth args meth cd) {H : Heap} {locs : List Loc} {arr : Array Slot} {sv : List Value} {r : List AV} {a : Int} (hH : am_HM G h H) (hS : va_S (fun q => eS G ≤ q) s.heap H locs) (hd : decode (am_cd m) pc = .ok (.arraylength, 1)) (ht : 20 ≤ am_t h a ∧ am_t h a ≤ 26)
    (k : ∀ V : Value, am_RV G (0, am_l h a) V → W p l e R s mth args below meth cd H locs c s0 Q (F0 mth (pc + 1) arr (V :: sv))) : W p l e R s mth args below meth cd H locs c s0 Q (F0 mth pc arr (.ref (ea G a) :: sv)) := by
  obtain ⟨hx, hb, hml, hown, hts, hW, hR, hlk, htr, hin⟩ := C
  obtain ⟨g1, g2⟩ := hH.2.2 a (by omega)
  have hK : va_K (eD G) vwCl [(eI G, .int), (eY G, .byte), (eJ G, .long), (eZ G, .boolean), (eQ G, .array .int), (eR G, .array .boolean)] s := hW.1.1
  have hn32 : ∀ n : Nat, n ≤ 4096 → (n : Int) = (Int32.ofNat n).toInt := fun n hn => by
    rw [Int32.toInt_ofNat_of_lt (by omega)]
  have key : ∀ (cA : ClassId) (lo hi : Int) (ty : FieldType), ArrOfT s cA ty → am_CI G cA lo hi h a H → W p l e R s mth args below meth cd H locs c s0 Q (F0 mth pc arr (.ref (ea G a) :: sv)) := by
    intro cA lo hi ty hA hc
    obtain ⟨n, f, b1, b2, b3, b4⟩ := hc
    refine W.alen (n := Int32.ofNat n) hx hb b1 (hA n _) (by rw [arrV_size]) rfl rfl hd ?_
    exact k _ ⟨_, rfl, by rw [b2]; exact hn32 n b3⟩
  have keyq : ∀ (cA : ClassId) (ty : FieldType), ArrOfT s cA ty → am_CQ G cA h a H → W p l e R s mth args below meth cd H locs c s0 Q (F0 mth pc arr (.ref (ea G a) :: sv)) := by
    intro cA ty hA hc
    obtain ⟨n, f, b1, b2, b3, b4⟩ := hc
    refine W.alen (n := Int32.ofNat n) hx hb b1 (hA n _) (by rw [arrV_size]) rfl rfl hd ?_
    exact k _ ⟨_, rfl, by rw [b2]; exact hn32 n b3⟩
  rcases (show am_t h a = 20 ∨ am_t h a = 21 ∨ am_t h a = 22 ∨ am_t h a = 23 ∨ am_t h a = 24 ∨ am_t h a = 25 ∨ am_t h a = 26 by omega) with ht | ht | ht | ht | ht | ht | ht
  · exact key _ _ _ _ (hK.2 0 _ rfl).1 ((am_CO_i ht).mp g2)
  · exact key _ _ _ _ (hK.2 1 _ rfl).1 ((am_CO_y ht).mp g2)
  · obtain ⟨n, f, b1, b2, b3, b4⟩ := (am_CO_j ht).mp g2
    refine W.alen (n := Int32.ofNat n) hx hb b1 ((hK.2 2 _ rfl).1 n (fun j => .long (f j))) (by rw [arrV_size]) rfl rfl hd ?_
    exact k _ ⟨_, rfl, by rw [b2]; exact hn32 n b3⟩
  · exact key _ _ _ _ (hK.2 3 _ rfl).1 ((am_CO_z ht).mp g2)
  · exact keyq _ _ (hK.2 4 _ rfl).1 ((am_CO_q ht).mp g2)
  · exact keyq _ _ (hK.2 5 _ rfl).1 ((am_CO_r ht).mp g2)
  · obtain ⟨j, a1, a2, a3, a4⟩ := (am_CO_b ht).mp g2
    obtain ⟨N, f, hT, hN⟩ : ∃ (N : Nat) (f : Nat → Value), va_T .byte (ev G j) N f (fun q => eS G ≤ q) s s.heap ∧ am_cn j = (N : Int) ∧ N ≤ 200 := am_cT hW a1
    obtain ⟨cell, q1, q2, q3, q4, q5, q6, q7⟩ := hT
    have ea0 : ea G a = ev G j := by rw [a2]; exact am_ea_v G j
    rw [ea0]
    refine W.alen hx hb (by rw [hS.2.1 _ (Array.getElem?_eq_some_iff.mp q1).1 q7]; exact q1) q2 q5 rfl rfl hd ?_
    refine k _ ⟨_, rfl, ?_⟩
    rw [Int32.toInt_ofNat_of_lt (by omega)]
    show am_l h a = _
    rw [a3]
    exact hN.1
theorem am_i_alen (C : am_Cx G l d m p R s mth args meth cd) {pr : Int → Prop} (hpr : ∀ a, pr a → 20 ≤ am_t h a ∧ am_t h a ≤ 26) (hd : decode (am_cd m) pc = .ok (.arraylength, 1)) (w : am_stp X (am_Gl G m p l e R s mth args below meth cd Q) d hs K (am_pR st fun a r => am_ck (pr a) (pc + 1, ls, (0, am_l h a) :: r, h, c, s0))) : am_Gl G m p l e R s mth args below meth cd Q (pc, ls, st, h, c, s0) := by
  have w1 := am_pR_inv w
  clear w
  obtain ⟨a, r, rfl, hp, w⟩ := w1
  intro H locs arr sv hH hS hL hst hc hs0
  dsimp only at hH hL hst hc hs0 ⊢
  have hq := am_RS_inv hst
  clear hst
  obtain ⟨VA, sv, rfl, hVA, hst⟩ := hq
  have ht := hpr a hp
  cases am_RVr hVA (hH.o (a := a) (by omega)).1
  exact am_i_alen_at (h := h) (r := r) C hH hS hd ht (fun V hV => w H locs arr _ hH hS hL ⟨hV, hst⟩ hc hs0)
theorem am_i_slen (C : am_Cx G l d m p R s mth args meth cd) {z : Int} {r : List AV} (hst0 : st = (4, z) :: r) (hd : decode (am_cd m) pc = .ok (.arraylength, 1)) (w : am_stp X (am_Gl G m p l e R s mth args below meth cd Q) d hs K (am_go (pc + 1, ls, (0, am_sl h) :: r, h, c, s0))) : am_Gl G m p l e R s mth args below meth cd Q (pc, ls, st, h, c, s0) := by
  obtain ⟨hx, hb, hml, hown, hts, hW, hR, hlk, htr, hin⟩ := C
  subst hst0
  intro H locs arr sv hH hS hL hst hc hs0
  dsimp only at hH hL hst hc hs0 ⊢
  have hq := am_RS_inv hst
  clear hst
  obtain ⟨VA, sv, rfl, hVA, hst⟩ := hq
  have hVA : VA = .ref (eb G) := hVA
  subst hVA
  have hbs : eb G < s.heap.size := Nat.lt_of_lt_of_le hW.2.2.2.2.1 hW.2.2.2.2.2.1
  refine va_slen hx hb hW.2.2.2.1 hbs (by have := hW.2.2.2.2.1; omega) hS hd ?_
  refine w H locs arr _ hH hS hL ⟨⟨_, rfl, ?_⟩, hst⟩ hc hs0
  have := hW.2.2.2.2.2.2
  rw [Int32.toInt_ofNat_of_lt (by omega)]
  exact hH.2.1.1
theorem am_i_sald (C : am_Cx G l d m p R s mth args meth cd) {z i : Int} {r : List AV} (hst0 : st = (0, i) :: (4, z) :: r) (hd : decode (am_cd m) pc = .ok (.iaload, 1)) (w : am_stp X (am_Gl G m p l e R s mth args below meth cd Q) d hs K (am_ck (0 ≤ i ∧ i < am_sl h) (pc + 1, ls, (0, am_sx h i) :: r, h, c, s0))) : am_Gl G m p l e R s mth args below meth cd Q (pc, ls, st, h, c, s0) := by
  obtain ⟨hx, hb, hml, hown, hts, hW, hR, hlk, htr, hin⟩ := C
  subst hst0
  obtain ⟨⟨hi0, hi1⟩, w⟩ := w
  intro H locs arr sv hH hS hL hst hc hs0
  dsimp only at hH hL hst hc hs0 ⊢
  have hq := am_RS_inv hst
  clear hst
  obtain ⟨VI, sv, rfl, hVI, hst⟩ := hq
  have hq := am_RS_inv hst
  clear hst
  obtain ⟨VA, sv, rfl, hVA, hst⟩ := hq
  obtain ⟨x, rfl, rfl⟩ := hVI
  have hVA : VA = .ref (eb G) := hVA
  subst hVA
  have hbs : eb G < s.heap.size := Nat.lt_of_lt_of_le hW.2.2.2.2.1 hW.2.2.2.2.2.1
  rw [hH.2.1.1] at hi1
  obtain ⟨k1, k2, k3⟩ := am_ix hi0 hi1
  refine va_sld hx hb hW.2.2.2.1 hbs (by have := hW.2.2.2.2.1; omega) hS k1 hd ?_
  exact w H locs arr _ hH hS hL ⟨⟨_, rfl, by rw [← k3]; exact hH.2.1.2 _ k2⟩, hst⟩ hc hs0
theorem am_i_tval (C : am_Cx G l d m p R s mth args meth cd) {z : Int} {r : List AV} {idx : Nat} (hst0 : st = (5, z) :: r) (hw : Cond.fieldLink (am_mn m).cls idx "java/lang/String" "value" "[B" ∈ am_W) (hd : decode (am_cd m) pc = .ok (.getfield idx, 3)) (w : am_stp X (am_Gl G m p l e R s mth args below meth cd Q) d hs K (am_go (pc + 3, ls, (7, z) :: r, h, c, s0))) : am_Gl G m p l e R s mth args below meth cd Q (pc, ls, st, h, c, s0) := by
  obtain ⟨hx, hb, hml, hown, hts, hW, hR, hlk, htr, hin⟩ := C
  subst hst0
  intro H locs arr sv hH hS hL hst hc hs0
  dsimp only at hH hL hst hc hs0 ⊢
  have hq := am_RS_inv hst
  clear hst
  obtain ⟨VA, sv, rfl, hVA, hst⟩ := hq
  obtain ⟨z0, z1, rfl⟩ := hVA
  obtain ⟨-, -, s3, -⟩ := hW.2.1 z.toNat (by simp only at z1; omega)
  refine vk_getf hx hb s3 hS hown (hts _ hw) (fun x hx => hx) hd ?_
  exact w H locs arr _ hH hS hL ⟨⟨z0, z1, rfl⟩, hst⟩ hc hs0
theorem am_i_tcoder (C : am_Cx G l d m p R s mth args meth cd) {z : Int} {r : List AV} {idx : Nat} (hst0 : st = (5, z) :: r) (hw : Cond.fieldLink (am_mn m).cls idx "java/lang/String" "coder" "B" ∈ am_W) (hd : decode (am_cd m) pc = .ok (.getfield idx, 3)) (w : am_stp X (am_Gl G m p l e R s mth args below meth cd Q) d hs K (am_go (pc + 3, ls, (0, 0) :: r, h, c, s0))) : am_Gl G m p l e R s mth args below meth cd Q (pc, ls, st, h, c, s0) := by
  obtain ⟨hx, hb, hml, hown, hts, hW, hR, hlk, htr, hin⟩ := C
  subst hst0
  intro H locs arr sv hH hS hL hst hc hs0
  dsimp only at hH hL hst hc hs0 ⊢
  have hq := am_RS_inv hst
  clear hst
  obtain ⟨VA, sv, rfl, hVA, hst⟩ := hq
  obtain ⟨z0, z1, rfl⟩ := hVA
  obtain ⟨-, s2, -, -⟩ := hW.2.1 z.toNat (by simp only at z1; omega)
  refine vk_getf hx hb s2 hS hown (hts _ hw) (fun x hx => hx) hd ?_
  exact w H locs arr _ hH hS hL ⟨⟨0, rfl, rfl⟩, hst⟩ hc hs0
theorem am_i_tbald (C : am_Cx G l d m p R s mth args meth cd) {z i : Int} {r : List AV} (hst0 : st = (0, i) :: (7, z) :: r) (hd : decode (am_cd m) pc = .ok (.baload, 1)) (w : am_stp X (am_Gl G m p l e R s mth args below meth cd Q) d hs K (am_ck (0 ≤ i ∧ i < am_tn z) (pc + 1, ls, (0, am_tb z i) :: r, h, c, s0))) : am_Gl G m p l e R s mth args below meth cd Q (pc, ls, st, h, c, s0) := by
  obtain ⟨hx, hb, hml, hown, hts, hW, hR, hlk, htr, hin⟩ := C
  subst hst0
  obtain ⟨⟨hi0, hi1⟩, w⟩ := w
  intro H locs arr sv hH hS hL hst hc hs0
  dsimp only at hH hL hst hc hs0 ⊢
  have hq := am_RS_inv hst
  clear hst
  obtain ⟨VI, sv, rfl, hVI, hst⟩ := hq
  have hq := am_RS_inv hst
  clear hst
  obtain ⟨VA, sv, rfl, hVA, hst⟩ := hq
  obtain ⟨x, rfl, rfl⟩ := hVI
  obtain ⟨z0, z1, rfl⟩ := hVA
  simp only at z0 z1
  have ez : z = (z.toNat : Int) := by omega
  obtain ⟨-, -, -, s4⟩ := hW.2.1 z.toNat (by omega)
  rw [ez, am_tn_eq] at hi1
  obtain ⟨k1, k2, k3⟩ := am_ix hi0 hi1
  refine va_tb hx hb s4 hS k1 rfl hd ?_
  refine w H locs arr _ hH hS hL ⟨⟨_, rfl, ?_⟩, hst⟩ hc hs0
  have := (am_tb_small z.toNat (by omega)).2 _ k2
  rw [am_ofInt (by omega), ← ez, k3]
theorem am_i_tlen (C : am_Cx G l d m p R s mth args meth cd) {z : Int} {r : List AV} (hst0 : st = (7, z) :: r) (hd : decode (am_cd m) pc = .ok (.arraylength, 1)) (w : am_stp X (am_Gl G m p l e R s mth args below meth cd Q) d hs K (am_go (pc + 1, ls, (0, am_tn z) :: r, h, c, s0))) : am_Gl G m p l e R s mth args below meth cd Q (pc, ls, st, h, c, s0) := by
  obtain ⟨hx, hb, hml, hown, hts, hW, hR, hlk, htr, hin⟩ := C
  subst hst0
  intro H locs arr sv hH hS hL hst hc hs0
  dsimp only at hH hL hst hc hs0 ⊢
  have hq := am_RS_inv hst
  clear hst
  obtain ⟨VA, sv, rfl, hVA, hst⟩ := hq
  obtain ⟨z0, z1, rfl⟩ := hVA
  simp only at z0 z1
  have ez : z = (z.toNat : Int) := by omega
  obtain ⟨-, -, -, cell, q1, q2, q3, q4, q5, q6, q7⟩ := hW.2.1 z.toNat (by omega)
  refine W.alen hx hb (by rw [hS.2.1 _ (Array.getElem?_eq_some_iff.mp q1).1 q7]; exact q1) q2 q5 rfl rfl hd ?_
  refine w H locs arr _ hH hS hL ⟨⟨_, rfl, ?_⟩, hst⟩ hc hs0
  have := (am_tb_small z.toNat (by omega)).1
  show am_tn z = (Int32.ofNat (am_nth am_tx z.toNat []).length).toInt
  rw [Int32.toInt_ofNat_of_lt (by omega), ← am_tn_eq, ← ez]
theorem am_i_gs60 (C : am_Cx G l d m p R s mth args meth cd) {idx : Nat} (hw : Cond.fieldLink (am_mn m).cls idx "java/lang/String" "COMPACT_STRINGS" "Z" ∈ am_W) (hd : decode (am_cd m) pc = .ok (.getstatic idx, 3)) (w : am_stp X (am_Gl G m p l e R s mth args below meth cd Q) d hs K (am_go (pc + 3, ls, (0, 1) :: st, h, c, s0))) : am_Gl G m p l e R s mth args below meth cd Q (pc, ls, st, h, c, s0) := by
  obtain ⟨hx, hb, hml, hown, hts, hW, hR, hlk, htr, hin⟩ := C
  intro H locs arr sv hH hS hL hst hc hs0
  dsimp only at hH hL hst hc hs0 ⊢
  refine va_gets hx hb hW.2.2.1.2.2.1 hS hown (hts _ hw) (fun x hx => hx) hd ?_
  exact w H locs arr _ hH hS hL ⟨⟨1, rfl, rfl⟩, hst⟩ hc hs0
theorem am_i_gs62 (C : am_Cx G l d m p R s mth args meth cd) {idx : Nat} (hw : Cond.fieldLink (am_mn m).cls idx "jdk/internal/util/Preconditions" "SIOOBE_FORMATTER" "Ljava/util/function/BiFunction;" ∈ am_W) (hd : decode (am_cd m) pc = .ok (.getstatic idx, 3)) (w : am_stp X (am_Gl G m p l e R s mth args below meth cd Q) d hs K (am_go (pc + 3, ls, (11, 0) :: st, h, c, s0))) : am_Gl G m p l e R s mth args below meth cd Q (pc, ls, st, h, c, s0) := by
  obtain ⟨hx, hb, hml, hown, hts, hW, hR, hlk, htr, hin⟩ := C
  intro H locs arr sv hH hS hL hst hc hs0
  dsimp only at hH hL hst hc hs0 ⊢
  rcases hW.2.2.1.2.2.2.1 with hz | ⟨t, hz⟩
  · refine va_gets hx hb hz hS hown (hts _ hw) (fun x hx => hx) hd ?_
    exact w H locs arr _ hH hS hL ⟨Or.inl rfl, hst⟩ hc hs0
  · refine va_gets hx hb hz hS hown (hts _ hw) (fun x hx => hx) hd ?_
    exact w H locs arr _ hH hS hL ⟨Or.inr ⟨t, rfl⟩, hst⟩ hc hs0
theorem am_i_ldci (C : am_Cx G l d m p R s mth args meth cd) {idx : Nat} {v : Int} (hv : -2147483648 ≤ v ∧ v < 2147483648) (hw : Cond.constant (am_mn m).cls idx (Int32.ofInt v) ∈ am_W) (hd : decode (am_cd m) pc = .ok (.ldc idx, 2)) (w : am_stp X (am_Gl G m p l e R s mth args below meth cd Q) d hs K (am_go (pc + 2, ls, (0, v) :: st, h, c, s0))) : am_Gl G m p l e R s mth args below meth cd Q (pc, ls, st, h, c, s0) := by
  obtain ⟨hx, hb, hml, hown, hts, hW, hR, hlk, htr, hin⟩ := C
  intro H locs arr sv hH hS hL hst hc hs0
  dsimp only at hH hL hst hc hs0 ⊢
  refine lv_ldc hx hb hown (hts _ hw) hd ?_
  exact w H locs arr _ hH hS hL ⟨⟨_, rfl, (am_ofInt hv).symm⟩, hst⟩ hc hs0
theorem am_i_ldcwi (C : am_Cx G l d m p R s mth args meth cd) {idx : Nat} {v : Int} (hv : -2147483648 ≤ v ∧ v < 2147483648) (hw : Cond.constant (am_mn m).cls idx (Int32.ofInt v) ∈ am_W) (hd : decode (am_cd m) pc = .ok (.ldc_w idx, 3)) (w : am_stp X (am_Gl G m p l e R s mth args below meth cd Q) d hs K (am_go (pc + 3, ls, (0, v) :: st, h, c, s0))) : am_Gl G m p l e R s mth args below meth cd Q (pc, ls, st, h, c, s0) := by
  obtain ⟨hx, hb, hml, hown, hts, hW, hR, hlk, htr, hin⟩ := C
  intro H locs arr sv hH hS hL hst hc hs0
  dsimp only at hH hL hst hc hs0 ⊢
  refine lv_ldcw hx hb hown (hts _ hw) hd ?_
  exact w H locs arr _ hH hS hL ⟨⟨_, rfl, (am_ofInt hv).symm⟩, hst⟩ hc hs0
theorem am_i_ldcl (C : am_Cx G l d m p R s mth args meth cd) {idx : Nat} {v : Int} (hv : 0 ≤ v ∧ v < 9223372036854775808) (hw : Cond.constantLong (am_mn m).cls idx (Int64.ofInt v) ∈ am_W) (hd : decode (am_cd m) pc = .ok (.ldc2_w idx, 3)) (w : am_stp X (am_Gl G m p l e R s mth args below meth cd Q) d hs K (am_go (pc + 3, ls, (1, v) :: st, h, c, s0))) : am_Gl G m p l e R s mth args below meth cd Q (pc, ls, st, h, c, s0) := by
  obtain ⟨hx, hb, hml, hown, hts, hW, hR, hlk, htr, hin⟩ := C
  intro H locs arr sv hH hS hL hst hc hs0
  dsimp only at hH hL hst hc hs0 ⊢
  refine lv_ldc2 hx hb hown (hts _ hw) hd ?_
  refine w H locs arr _ hH hS hL ⟨⟨_, rfl, ?_⟩, hst⟩ hc hs0
  rw [Int64.toInt_ofInt]
  show v = v.bmod 18446744073709551616
  rw [Int.bmod_eq_of_le] <;> omega
theorem am_i_ldct (C : am_Cx G l d m p R s mth args meth cd) {idx j : Nat} (hj : j < 36) (ho : (am_own j).1 = (am_mn m).cls ∧ (am_own j).2.1 = idx) (hd : decode (am_cd m) pc = .ok (.ldc idx, 2)) (w : am_stp X (am_Gl G m p l e R s mth args below meth cd Q) d hs K (am_go (pc + 2, ls, (5, (j : Int)) :: st, h, c, s0))) : am_Gl G m p l e R s mth args below meth cd Q (pc, ls, st, h, c, s0) := by
  obtain ⟨hx, hb, hml, hown, hts, hW, hR, hlk, htr, hin⟩ := C
  intro H locs arr sv hH hS hL hst hc hs0
  dsimp only at hH hL hst hc hs0 ⊢
  have hZ := hW.1.2.2.1 j hj
  rw [ho.1, ho.2] at hZ
  refine va_ldcS hx hb hown hZ hd ?_
  exact w H locs arr _ hH hS hL ⟨⟨by simp only; omega, by simp only; omega, by simp⟩, hst⟩ hc hs0
theorem am_i_ldck (C : am_Cx G l d m p R s mth args meth cd) {idx j : Nat} (hj : j < 36) (ho : (am_own j).1 = (am_mn m).cls ∧ (am_own j).2.1 = idx) (hd : decode (am_cd m) pc = .ok (.ldc idx, 2)) (w : am_stp X (am_Gl G m p l e R s mth args below meth cd Q) d hs K (am_go (pc + 2, ls, (2, -(300000000 + 2 * (j : Int))) :: st, h, c, s0))) : am_Gl G m p l e R s mth args below meth cd Q (pc, ls, st, h, c, s0) := by
  obtain ⟨hx, hb, hml, hown, hts, hW, hR, hlk, htr, hin⟩ := C
  intro H locs arr sv hH hS hL hst hc hs0
  dsimp only at hH hL hst hc hs0 ⊢
  have hZ := hW.1.2.2.1 j hj
  rw [ho.1, ho.2] at hZ
  refine va_ldcS hx hb hown hZ hd ?_
  exact w H locs arr _ hH hS hL ⟨Or.inr ⟨by simp only; omega, by rw [am_ea_k]⟩, hst⟩ hc hs0
theorem am_i_mmin (C : am_Cx G l d m p R s mth args meth cd) {idx : Nat} (hw1 : Cond.methodLink (am_mn m).cls idx Lib.Math.min.name ∈ am_W) (hw2 : Cond.static Lib.Math.min.name ∈ am_W) (hw3 : Cond.initialized "java/lang/Math" ∈ am_W) (hw4 : Cond.code Lib.Math.min.name Lib.Math.min.code 2 (some .int) ∈ am_W) (hd : decode (am_cd m) pc = .ok (.invokestatic idx, 3)) (w : am_stp X (am_Gl G m p l e R s mth args below meth cd Q) d hs K (am_pI st fun b r => am_pI r fun a r => am_few r (am_go (pc + 3, ls, (0, min a b) :: r, h, c, s0)))) : am_Gl G m p l e R s mth args below meth cd Q (pc, ls, st, h, c, s0) := by
  obtain ⟨hx, hb, hml, hown, hts, hW, hR, hlk, htr, hin⟩ := C
  have w1 := am_pI_inv w
  clear w
  obtain ⟨b, r, rfl, w⟩ := w1
  have w1 := am_pI_inv w
  clear w
  obtain ⟨a, r, rfl, w⟩ := w1
  obtain ⟨hfew, w⟩ := am_few_inv w
  intro H locs arr sv hH hS hL hst hc hs0
  dsimp only at hH hL hst hc hs0 ⊢
  have hq := am_RS_inv hst
  clear hst
  obtain ⟨VB, sv, rfl, hVB, hst⟩ := hq
  have hq := am_RS_inv hst
  clear hst
  obtain ⟨VA, sv, rfl, hVA, hst⟩ := hq
  obtain ⟨y, rfl, rfl⟩ := hVB
  obtain ⟨x, rfl, rfl⟩ := hVA
  have hcat := am_RS_cat hst
  refine va_mmin hx hb (hml.trans hL.1.symm) hown (hts _ hw1) (hts _ hw2) (hts _ hw3) (hts _ hw4) (by omega) (by rw [hcat]; omega) hc hs0 hd ?_
  refine w H locs arr _ hH hS hL ⟨⟨_, rfl, ?_⟩, hst⟩ hc hs0
  simp only
  split
  · rename_i hh
    have := Int32.lt_iff_toInt_lt.mp hh
    omega
  · rename_i hh
    have : ¬ _ := fun q => hh (Int32.lt_iff_toInt_lt.mpr q)
    omega
theorem am_i_mmax (C : am_Cx G l d m p R s mth args meth cd) {idx : Nat} (hw1 : Cond.methodLink (am_mn m).cls idx Lib.Math.max.name ∈ am_W) (hw2 : Cond.static Lib.Math.max.name ∈ am_W) (hw3 : Cond.initialized "java/lang/Math" ∈ am_W) (hw4 : Cond.code Lib.Math.max.name Lib.Math.max.code 2 (some .int) ∈ am_W) (hd : decode (am_cd m) pc = .ok (.invokestatic idx, 3)) (w : am_stp X (am_Gl G m p l e R s mth args below meth cd Q) d hs K (am_pI st fun b r => am_pI r fun a r => am_few r (am_go (pc + 3, ls, (0, max a b) :: r, h, c, s0)))) : am_Gl G m p l e R s mth args below meth cd Q (pc, ls, st, h, c, s0) := by
  obtain ⟨hx, hb, hml, hown, hts, hW, hR, hlk, htr, hin⟩ := C
  have w1 := am_pI_inv w
  clear w
  obtain ⟨b, r, rfl, w⟩ := w1
  have w1 := am_pI_inv w
  clear w
  obtain ⟨a, r, rfl, w⟩ := w1
  obtain ⟨hfew, w⟩ := am_few_inv w
  intro H locs arr sv hH hS hL hst hc hs0
  dsimp only at hH hL hst hc hs0 ⊢
  have hq := am_RS_inv hst
  clear hst
  obtain ⟨VB, sv, rfl, hVB, hst⟩ := hq
  have hq := am_RS_inv hst
  clear hst
  obtain ⟨VA, sv, rfl, hVA, hst⟩ := hq
  obtain ⟨y, rfl, rfl⟩ := hVB
  obtain ⟨x, rfl, rfl⟩ := hVA
  have hcat := am_RS_cat hst
  refine va_mmax hx hb (hml.trans hL.1.symm) hown (hts _ hw1) (hts _ hw2) (hts _ hw3) (hts _ hw4) (by omega) (by rw [hcat]; omega) hc hs0 hd ?_
  refine w H locs arr _ hH hS hL ⟨⟨_, rfl, ?_⟩, hst⟩ hc hs0
  simp only
  split
  · rename_i hh
    have := Int32.lt_iff_toInt_lt.mp hh
    omega
  · rename_i hh
    have : ¬ _ := fun q => hh (Int32.lt_iff_toInt_lt.mpr q)
    omega
theorem am_i_objinit (C : am_Cx G l d m p R s mth args meth cd) {idx : Nat} (hw1 : Cond.methodLink (am_mn m).cls idx Lib.objectInit ∈ am_W) (hw2 : Cond.instanceMethod Lib.objectInit ∈ am_W) (hw3 : Cond.code Lib.objectInit ⟨#[0xb1]⟩ 1 none ∈ am_W) {pr : Int → Prop} (hpr : ∀ a, pr a → ¬ a = -1) (hd : decode (am_cd m) pc = .ok (.invokespecial idx, 3)) (w : am_stp X (am_Gl G m p l e R s mth args below meth cd Q) d hs K (am_pR st fun a r => am_few r (am_ck (pr a) (pc + 3, ls, r, h, c, s0)))) : am_Gl G m p l e R s mth args below meth cd Q (pc, ls, st, h, c, s0) := by
  obtain ⟨hx, hb, hml, hown, hts, hW, hR, hlk, htr, hin⟩ := C
  have w1 := am_pR_inv w
  clear w
  obtain ⟨a, r, rfl, w⟩ := w1
  obtain ⟨hfew, ha0, w⟩ := am_few_inv w
  intro H locs arr sv hH hS hL hst hc hs0
  dsimp only at hH hL hst hc hs0 ⊢
  have hq := am_RS_inv hst
  clear hst
  obtain ⟨VA, sv, rfl, hVA, hst⟩ := hq
  have hVaa : VA = .ref (ea G a) := by
    exact am_RVr hVA (hpr _ ha0)
  subst hVaa
  have hcat := am_RS_cat hst
  have := hR.1
  refine W.objInit hx hb hown (hts _ hw1) (hts _ hw2) (hts _ hw3) rfl (hL.1.trans hml.symm) rfl hd (by omega) (by rw [hcat]; show 2 * 0 + _ + 12 ≤ _; omega) ?_
  exact w H locs arr sv hH hS hL hst hc hs0
/-- a switch: the goals as the abstract machine lists them -/
theorem am_swP_at {x : Int} {e0 : AC} : ∀ {l : List (Int × AC)} {k : Nat} {v : Int} {c1 : AC}, am_swP Z x e0 l → l[k]? = some (v, c1) → x = v → (∀ j v' c', j < k → l[j]? = some (v', c') → v' ≠ v) → Z c1
  | [], k, v, c1, w, hk, hx, hb => by simp at hk
  | (v0, c0) :: r, 0, v, c1, w, hk, hx, hb => by
    cases hk
    exact w.1 hx
  | (v0, c0) :: r, k + 1, v, c1, w, hk, hx, hb => by
    have h0 := hb 0 v0 c0 (by omega) rfl
    exact am_swP_at (w.2 (fun z => h0 (z.symm.trans hx))) hk hx (fun j v' c' hj hl => hb (j + 1) v' c' (by omega) hl)
theorem am_swP_no {x : Int} {e0 : AC} : ∀ {l : List (Int × AC)}, am_swP Z x e0 l → (∀ q ∈ l, x ≠ q.1) → Z e0
  | [], w, _ => w
  | (v0, c0) :: r, w, hn => am_swP_no (w.2 (hn (v0, c0) List.mem_cons_self)) (fun q hq => hn q (List.mem_cons_of_mem _ hq))
theorem am_i_tsw (C : am_Cx G l d m p R s mth args meth cd) {dflt lo hi : Int} {offs : Array Int} {len r1 : Nat} {zs : List (Int × Nat)} (hz1 : zs.length = offs.size) (hz2 : lo + (offs.size : Int) = hi + 1) (hz3 : ∀ k : Nat, k < offs.size → ∃ off t, offs[k]? = some off ∧ zs[k]? = some (lo + (k : Int), t) ∧ (pc : Int) + off = (t : Int)) (hz4 : (pc : Int) + dflt = (r1 : Int)) (hd : decode (am_cd m) pc = .ok (.tableswitch dflt lo hi offs, len)) (w : am_stp X (am_Gl G m p l e R s mth args below meth cd Q) d hs K (am_pI st fun a r => am_sw a (zs.map fun z => (z.1, (z.2, ls, r, h, c, s0))) (r1, ls, r, h, c, s0))) : am_Gl G m p l e R s mth args below meth cd Q (pc, ls, st, h, c, s0) := by
  obtain ⟨hx, hb, hml, hown, hts, hW, hR, hlk, htr, hin⟩ := C
  have w1 := am_pI_inv w
  clear w
  obtain ⟨a, r, rfl, w⟩ := w1
  intro H locs arr sv hH hS hL hst hc hs0
  dsimp only at hH hL hst hc hs0 ⊢
  have hq := am_RS_inv hst
  clear hst
  obtain ⟨VA, sv, rfl, hVA, hst⟩ := hq
  obtain ⟨x, rfl, rfl⟩ := hVA
  have w : am_swP (am_Gl G m p l e R s mth args below meth cd Q) x.toInt (r1, ls, r, h, c, s0) (zs.map fun z => (z.1, (z.2, ls, r, h, c, s0))) := w
  have hval : ∀ (j : Nat) (v : Int) (c' : AC), (zs.map fun z => (z.1, (z.2, ls, r, h, c, s0)))[j]? = some (v, c') → j < offs.size ∧ v = lo + (j : Int) := by
    intro j v c' hj
    rw [List.getElem?_map] at hj
    cases hzj : zs[j]? with
    | none => rw [hzj] at hj; cases hj
    | some z =>
      have hjl : j < zs.length := (List.getElem?_eq_some_iff.mp hzj).1
      obtain ⟨off, t, -, e2, -⟩ := hz3 j (by omega)
      rw [hzj] at hj e2
      cases e2
      cases hj
      exact ⟨by omega, rfl⟩
  by_cases h1 : x.toInt < lo ∨ hi < x.toInt
  · refine lv_tableOut hx hb hd h1 hz4 ?_
    refine am_swP_no w (fun q hq => ?_) H locs arr sv hH hS hL hst hc hs0
    obtain ⟨j, hj⟩ := List.getElem?_of_mem hq
    obtain ⟨v, c'⟩ := q
    obtain ⟨g1, g2⟩ := hval j v c' hj
    simp only
    omega
  · obtain ⟨off, t, e1, e2, e3⟩ := hz3 (x.toInt - lo).toNat (by omega)
    refine lv_tableIn hx hb hd (fun z => h1 (Or.inl z)) (fun z => h1 (Or.inr z)) e1 e3 ?_
    have e2' : (zs.map fun z => (z.1, (z.2, ls, r, h, c, s0)))[(x.toInt - lo).toNat]? = some (lo + ((x.toInt - lo).toNat : Int), (t, ls, r, h, c, s0)) := by rw [List.getElem?_map, e2]; rfl
    refine am_swP_at w e2' (by omega) (fun j v' c' hj hl => ?_) H locs arr sv hH hS hL hst hc hs0
    obtain ⟨g1, g2⟩ := hval j v' c' hl
    omega
theorem am_i_lsw (C : am_Cx G l d m p R s mth args meth cd) {dflt : Int} {ps : Array (Int × Int)} {len r1 : Nat} {zs : List (Int × Nat)} (hz1 : (ps.toList.zip (ps.toList.drop 1)).all (fun (a, next) => a.1 < next.1) = true) (hz2 : zs.length = ps.toList.length) (hz3 : ∀ k : Nat, k < ps.toList.length → ∃ v off t, ps.toList[k]? = some (v, off) ∧ zs[k]? = some (v, t) ∧ (pc : Int) + off = (t : Int)) (hz4 : (pc : Int) + dflt = (r1 : Int)) (hd : decode (am_cd m) pc = .ok (.lookupswitch dflt ps, len)) (w : am_stp X (am_Gl G m p l e R s mth args below meth cd Q) d hs K (am_pI st fun a r => am_sw a (zs.map fun z => (z.1, (z.2, ls, r, h, c, s0))) (r1, ls, r, h, c, s0))) : am_Gl G m p l e R s mth args below meth cd Q (pc, ls, st, h, c, s0) := by
  obtain ⟨hx, hb, hml, hown, hts, hW, hR, hlk, htr, hin⟩ := C
  have w1 := am_pI_inv w
  clear w
  obtain ⟨a, r, rfl, w⟩ := w1
  intro H locs arr sv hH hS hL hst hc hs0
  dsimp only at hH hL hst hc hs0 ⊢
  have hq := am_RS_inv hst
  clear hst
  obtain ⟨VA, sv, rfl, hVA, hst⟩ := hq
  obtain ⟨x, rfl, rfl⟩ := hVA
  have w : am_swP (am_Gl G m p l e R s mth args below meth cd Q) x.toInt (r1, ls, r, h, c, s0) (zs.map fun z => (z.1, (z.2, ls, r, h, c, s0))) := w
  have key : ∀ (ps' : List (Int × Int)) (zs' : List (Int × Nat)), zs'.length = ps'.length → (∀ k : Nat, k < ps'.length → ∃ v off t, ps'[k]? = some (v, off) ∧ zs'[k]? = some (v, t) ∧ (pc : Int) + off = (t : Int)) → am_swP (am_Gl G m p l e R s mth args below meth cd Q) x.toInt (r1, ls, r, h, c, s0) (zs'.map fun z => (z.1, (z.2, ls, r, h, c, s0))) →
      ∃ (off : Int) (t : Nat), Op.lookupswitch.offset ps' dflt x.toInt = off ∧ (pc : Int) + off = (t : Int) ∧ am_Gl G m p l e R s mth args below meth cd Q (t, ls, r, h, c, s0) := by
    intro ps'
    induction ps' with
    | nil =>
      intro zs' hl hk hw
      cases zs' with
      | nil => exact ⟨dflt, r1, rfl, hz4, hw⟩
      | cons a b => simp at hl
    | cons q0 ps' ih =>
      intro zs' hl hk hw
      cases zs' with
      | nil => simp at hl
      | cons z0 zs' =>
        obtain ⟨v, off, t, e1, e2, e3⟩ := hk 0 (by simp)
        simp at e1 e2
        subst e1
        subst e2
        by_cases hxv : x.toInt = v
        · refine ⟨off, t, ?_, e3, hw.1 hxv⟩
          rw [Op.lookupswitch.offset_cons, if_pos hxv.symm]
        · obtain ⟨o2, t2, f1, f2, f3⟩ := ih zs' (by simpa using hl) (fun k hk2 => by
            obtain ⟨v, off, t, e1, e2, e3⟩ := hk (k + 1) (by simpa using hk2)
            exact ⟨v, off, t, by simpa using e1, by simpa using e2, e3⟩) (hw.2 hxv)
          refine ⟨o2, t2, ?_, f2, f3⟩
          rw [Op.lookupswitch.offset_cons, if_neg (fun z => hxv z.symm)]
          exact f1
  obtain ⟨off, t, f1, f2, f3⟩ := key ps.toList zs hz2 hz3 w
  refine lv_lookup hx hb hd hz1 f1 f2 ?_
  exact f3 H locs arr sv hH hS hL hst hc hs0
end SIM
