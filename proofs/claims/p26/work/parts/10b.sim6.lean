/-! ===== rows of rows, copies, texts that are made, doubles as bits ===== -/
theorem am_outer (c : ClassId) (N h0 : Nat) : ∀ i : Nat, Jvm.Free.Multi.outerC c N h0 i = arrV c N (fun j => va_rf (if j < i then some (h0 + 1 + j) else none))
  | 0 => by
    refine (arrV_new c N .null).trans (congrArg (arrV c N) (funext fun j => ?_))
    rw [if_neg (by omega)]
    rfl
  | i + 1 => by
    refine (congrArg (fun y : Cell => y.setSlot i (.ref (h0 + 1 + i))) (am_outer c N h0 i)).trans ?_
    show (arrV c N _).setSlot i _ = _
    rw [arrV_store]
    refine congrArg (arrV c N) (funext fun j => ?_)
    unfold updV
    by_cases e1 : j = i
    · rw [if_pos e1, if_pos (by omega), e1]
      rfl
    · rw [if_neg e1]
      by_cases e2 : j < i
      · show va_rf (if j < i then _ else _) = _
        rw [if_pos e2, if_pos (by omega)]
      · show va_rf (if j < i then _ else _) = _
        rw [if_neg e2, if_neg (by omega)]
theorem fb_byte0 {x : Int32} (h1 : -128 ≤ x.toInt) (h2 : x.toInt < 128) : x.toInt8.toInt32 = x := by
  apply Int32.toInt_inj.mp
  rw [Int8.toInt_toInt32, Int32.toInt_toInt8]
  show x.toInt.bmod 256 = _
  rw [Int.bmod_eq_of_le] <;> omega
theorem am_HM_mk2 {G : am_En} {h : AH} {H H1 : Heap} {t u : Nat} {n k : Int} (hH : am_HM G h H) (hf : am_fr h) (hn : 0 ≤ n ∧ n ≤ 64) (ht0 : am_wt t) (hu0 : am_wt u) (hz : H1.size = H.size + 1 + n.toNat) (o1 : ∀ q : Nat, q < H.size → H1[q]? = H[q]?) (hC : am_CO G (am_mk2 h t u n k) (am_n h) H1) (hD : ∀ j : Nat, j < n.toNat → am_CO G (am_mk2 h t u n k) (am_n h + 1 + j) H1) : am_HM G (am_mk2 h t u n k) H1 := by
  have hH0 := hH
  obtain ⟨g1, g3, g5⟩ := hH
  obtain ⟨p1, p2, p3, p4⟩ := g1.new hf
  have en : am_n (am_mk2 h t u n k) = am_n h + 1 + n := rfl
  have hf2 := hf
  unfold am_fr at hf2
  have g1' := g1
  unfold am_ph at g1'
  have hea : ∀ j : Int, 0 ≤ j → j ≤ n → ea G (am_n h + j) = H.size + j.toNat := by
    intro j h0 h1
    have e := am_ea_hi (G := G) (a := am_n h + j) (by omega)
    rcases g1' with ⟨q1, q2, q3⟩ | ⟨q1, q2, q3, q4⟩
    · rw [if_neg (fun z => z.2 q1)] at e
      omega
    · rw [if_pos ⟨by omega, q1⟩] at e
      omega
  refine ⟨?_, g3, fun b hb => ?_⟩
  · unfold am_ph
    rw [en, hz]
    omega
  · by_cases hbn : b = am_n h
    · have et : am_t (am_mk2 h t u n k) b = t := if_pos hbn
      rw [hbn]
      refine ⟨⟨p2, Or.inl ⟨p4, by rw [en]; omega, by omega, by omega, fun z z2 => by omega, ?_⟩⟩, hC⟩
      rw [← hbn, et]
      exact ht0.2
    · by_cases hbi : am_n h < b ∧ b ≤ am_n h + n
      · have et : am_t (am_mk2 h t u n k) b = u := (if_neg hbn).trans (if_pos hbi)
        have e2 : b = am_n h + (b - am_n h) := by omega
        have e3 := hea (b - am_n h) (by omega) (by omega)
        rw [← e2] at e3
        refine ⟨⟨by omega, Or.inl ⟨by omega, by rw [en]; omega, by omega, by omega, fun z z2 => by omega, ?_⟩⟩, ?_⟩
        · rw [et]
          exact hu0.2
        · have e4 : b = am_n h + 1 + ((b - am_n h - 1).toNat : Nat) := by omega
          rw [e4]
          exact hD _ (by omega)
      · have et : am_t (am_mk2 h t u n k) b = am_t h b := (if_neg hbn).trans (if_neg hbi)
        rw [et] at hb
        obtain ⟨b1, b2⟩ := g5 b hb
        exact ⟨am_ok_keep b1 (by rw [en]; omega) (by omega) et, am_CO_kept b2 (o1 _ (hH0.o hb).2) et ((if_neg hbn).trans (if_neg hbi)) (fun j => (if_neg hbn).trans (if_neg hbi))⟩
section SIM
variable {G : am_En} {l : Launch} {d m : Nat} {p : Program} {e : Env} {R : Room} {s : State} {mth : MethodId} {args : Array Value} {below : List Frame} {meth : Method} {cd : Code} {Q : State → Prop} {K : AK} {X : AX} {Z : AC → Prop} {hs : List (Nat × Nat × Nat × Nat)}
variable {pc : Nat} {ls st : List AV} {h : AH} {c s0 : Nat}
theorem am_i_aald (C : am_Cx G l d m p R s mth args meth cd) (hd : decode (am_cd m) pc = .ok (.aaload, 1)) (w : am_stp X (am_Gl G m p l e R s mth args below meth cd Q) d hs K (am_pI st fun i r => am_pR r fun a r => am_ck ((am_t h a = 24 ∨ am_t h a = 25) ∧ 0 ≤ i ∧ i < am_l h a) (pc + 1, ls, (2, am_m h a i) :: r, h, c, s0))) : am_Gl G m p l e R s mth args below meth cd Q (pc, ls, st, h, c, s0) := by
  obtain ⟨hx, hb, hml, hown, hts, hW, hR, hlk, htr, hin⟩ := C
  have w1 := am_pI_inv w
  clear w
  obtain ⟨i, r, rfl, w⟩ := w1
  have w1 := am_pR_inv w
  clear w
  obtain ⟨a, r, rfl, w⟩ := w1
  obtain ⟨⟨ht, hi0, hi1⟩, w⟩ := w
  intro H locs arr sv hH hS hL hst hc hs0
  dsimp only at hH hL hst hc hs0 ⊢
  have hq := am_RS_inv hst
  clear hst
  obtain ⟨VI, sv, rfl, hVI, hst⟩ := hq
  have hq := am_RS_inv hst
  clear hst
  obtain ⟨VA, sv, rfl, hVA, hst⟩ := hq
  obtain ⟨x, rfl, rfl⟩ := hVI
  obtain ⟨g1, g2⟩ := hH.2.2 a (by omega)
  cases am_RVr hVA g1.1
  have hK : va_K (eD G) vwCl [(eI G, .int), (eY G, .byte), (eJ G, .long), (eZ G, .boolean), (eQ G, .array .int), (eR G, .array .boolean)] s := hW.1.1
  have key : ∀ (cA : ClassId) (ty : FieldType), ty.isReference = true → ArrOfT s cA ty → am_CQ G cA h a H → W p l e R s mth args below meth cd H locs c s0 Q (F0 mth pc arr (.int x :: .ref (ea G a) :: sv)) := by
    intro cA ty hty hA hc2
    obtain ⟨n, f, b1, b2, b3, b4⟩ := hc2
    rw [b2] at hi1
    obtain ⟨k1, k2, k3⟩ := am_ix hi0 hi1
    refine W.aald (v := va_rf (f x.toNatClampNeg)) (ty := ty) hx hb b1 (hA n _) hty (fun q => by cases q) (by rw [arrV_size]; exact k1) (by rw [arrV_read _ _ k2]) rfl rfl hd ?_
    exact w H locs arr _ hH hS hL ⟨by rw [← k3]; exact b4 _ k2, hst⟩ hc hs0
  rcases ht with ht | ht
  · exact key _ _ rfl (hK.2 4 _ rfl).1 ((am_CO_q ht).mp g2)
  · exact key _ _ rfl (hK.2 5 _ rfl).1 ((am_CO_r ht).mp g2)
theorem am_i_aast (C : am_Cx G l d m p R s mth args meth cd) (hd : decode (am_cd m) pc = .ok (.aastore, 1)) (w : am_stp X (am_Gl G m p l e R s mth args below meth cd Q) d hs K (am_pR st fun v r => am_pI r fun i r => am_pR r fun a r => am_ck ((am_t h a = 24 ∧ am_t h v = 20 ∨ am_t h a = 25 ∧ am_t h v = 23) ∧ 0 ≤ i ∧ i < am_l h a) (pc + 1, ls, r, am_w h a i v, c, s0))) : am_Gl G m p l e R s mth args below meth cd Q (pc, ls, st, h, c, s0) := by
  obtain ⟨hx, hb, hml, hown, hts, hW, hR, hlk, htr, hin⟩ := C
  have w1 := am_pR_inv w
  clear w
  obtain ⟨v, r, rfl, w⟩ := w1
  have w1 := am_pI_inv w
  clear w
  obtain ⟨i, r, rfl, w⟩ := w1
  have w1 := am_pR_inv w
  clear w
  obtain ⟨a, r, rfl, w⟩ := w1
  obtain ⟨⟨ht, hi0, hi1⟩, w⟩ := w
  intro H locs arr sv hH hS hL hst hc hs0
  dsimp only at hH hL hst hc hs0 ⊢
  have hq := am_RS_inv hst
  clear hst
  obtain ⟨VV, sv, rfl, hVV, hst⟩ := hq
  have hq := am_RS_inv hst
  clear hst
  obtain ⟨VI, sv, rfl, hVI, hst⟩ := hq
  have hq := am_RS_inv hst
  clear hst
  obtain ⟨VA, sv, rfl, hVA, hst⟩ := hq
  obtain ⟨x, rfl, rfl⟩ := hVI
  obtain ⟨g1, g2⟩ := hH.2.2 a (by omega)
  obtain ⟨v1, v2⟩ := hH.2.2 v (by omega)
  have hVV0 := hVV
  cases am_RVr hVA g1.1
  cases am_RVr hVV v1.1
  have key : ∀ (cA cE : ClassId) (ty : FieldType) (lo hi : Int) (hwt : am_wt (am_t h a)) (hco : ∀ h1 H1, am_t h1 a = am_t h a → am_CQ G cA h1 a H1 → am_CO G h1 a H1), am_GK cA cE ty s → am_CQ G cA h a H → am_CI G cE lo hi h v H → W p l e R s mth args below meth cd H locs c s0 Q (F0 mth pc arr (.ref (ea G v) :: .int x :: .ref (ea G a) :: sv)) := by
    intro cA cE ty lo hi hwt hco hgk hc2 hv2
    obtain ⟨n, f, b1, b2, b3, b4⟩ := hc2
    obtain ⟨nv, fv, c1, -⟩ := hv2
    obtain ⟨kA, kC, q1, q2, q3⟩ := hgk
    rw [b2] at hi1
    obtain ⟨k1, k2, k3⟩ := am_ix hi0 hi1
    refine W.aast hx hb b1 (fun q z => by cases z) (fun z => by cases z) (show s.vm.classes[cA]? = some kA from q1) q2 rfl q3 ⟨fun z => k1 (Or.inl z), by rw [arrV_size]; exact k2⟩ c1 (fun q z => by cases z) (show s.vm.classes[cE]? = some kC from q3) (va_asg _ _) rfl rfl hd fun H1 e1 z oq => ?_
    refine w H1 _ arr sv ?_ (hS.put z oq (hH.w hwt).2.1) hL hst hc hs0
    refine am_HM_set hH hwt z oq rfl rfl (fun _ => rfl) (fun _ => rfl) (fun _ => rfl) (fun b j hb => by rw [am_m_w, if_neg (fun z => hb z.1)]) ?_
    refine hco _ _ rfl ⟨n, fun j => if j = x.toNatClampNeg then some (ea G v) else f j, ?_, b2, b3, fun j hj => ?_⟩
    · rw [e1, arrV_store]
      congr 2
      funext q
      by_cases hq : q = x.toNatClampNeg
      · simp [updV, hq, va_rf]
      · simp [updV, hq]
    · rw [am_m_w]
      dsimp only
      by_cases hji : j = x.toNatClampNeg
      · rw [if_pos ⟨rfl, by omega⟩, if_pos hji]
        exact hVV0
      · rw [if_neg (fun z => hji (by omega)), if_neg hji]
        exact b4 j hj
  rcases ht with ⟨ht, hv⟩ | ⟨ht, hv⟩
  · exact key _ _ _ _ _ ⟨by omega, by omega, by omega⟩ (fun h1 H1 e1 hc3 => (am_CO_q (e1.trans ht)).mpr hc3) hW.1.2.2.2.2.2.1 ((am_CO_q ht).mp g2) ((am_CO_i hv).mp v2)
  · exact key _ _ _ _ _ ⟨by omega, by omega, by omega⟩ (fun h1 H1 e1 hc3 => (am_CO_r (e1.trans ht)).mpr hc3) hW.1.2.2.2.2.2.2.1 ((am_CO_r ht).mp g2) ((am_CO_z hv).mp v2)
theorem am_i_anew_i (C : am_Cx G l d m p R s mth args meth cd) {idx : Nat} (hw : Cond.classLink (am_mn m).cls idx (FieldType.array .int).toString ∈ am_W) (hd : decode (am_cd m) pc = .ok (.anewarray idx, 3)) (w : am_stp X (am_Gl G m p l e R s mth args below meth cd Q) d hs K (am_pI st fun n r => am_ck (((0 ≤ n ∧ n ≤ 4096) ∧ am_fr h) ∧ c + 1 ≤ (am_cap m).1 ∧ s0 + n.toNat ≤ (am_cap m).2) (pc + 3, ls, (2, am_n h) :: r, am_a h 24 n (fun _ => -1), c + 1, s0 + n.toNat))) : am_Gl G m p l e R s mth args below meth cd Q (pc, ls, st, h, c, s0) := by
  obtain ⟨hx, hb, hml, hown, hts, hW, hR, hlk, htr, hin⟩ := C
  have w1 := am_pI_inv w
  clear w
  obtain ⟨n, r, rfl, w⟩ := w1
  obtain ⟨⟨⟨⟨hn0, hn1⟩, hfr⟩, hc1, hs1⟩, w⟩ := w
  intro H locs arr sv hH hS hL hst hc hs0
  dsimp only at hH hL hst hc hs0 ⊢
  have hq := am_RS_inv hst
  clear hst
  obtain ⟨VN, sv, rfl, hVN, hst⟩ := hq
  obtain ⟨x, rfl, rfl⟩ := hVN
  have hK : va_K (eD G) vwCl [(eI G, .int), (eY G, .byte), (eJ G, .long), (eZ G, .boolean), (eQ G, .array .int), (eR G, .array .boolean)] s := hW.1.1
  obtain ⟨hsz, hn9, -, -⟩ := hH.1.new hfr
  have ex0 : x.toNatClampNeg = x.toInt.toNat := rfl
  have hx0 : ¬ x < 0 := fun z => by
    have := Int32.lt_iff_toInt_lt.mp z
    have e0 : (0 : Int32).toInt = 0 := rfl
    omega
  refine W.anewA (t := .int) hx hb hown (hts _ hw) (show (Cond.arrayOver (.array .int)).before args s = true from over_moved (Vm.Alike.refl _) hW.1.2.2.2.2.2.2.2.1) rfl hd rfl hx0 (by omega) (by omega) (by omega) fun cA kA comp hA hkA hkind hcomp => ?_
  have ecA : cA = eQ G := Option.some.inj (hA.symm.trans (hK.2 4 _ rfl).2)
  subst ecA
  have e9 : ({ cls := eQ G, slots := Array.replicate x.toNatClampNeg .null, vm := .none } : Cell) = arrV (eQ G) x.toNatClampNeg (fun j => va_rf ((fun _ => none : Nat → Option Nat) j)) := arrV_new _ _ _
  rw [e9]
  have hz9 : ∀ y : Cell, (H.push y).size = H.size + 1 := fun y => Array.size_push ..
  have o9 : ∀ (y : Cell) (q : Nat), q < H.size → (H.push y)[q]? = H[q]? := fun y q hq => by rw [Array.getElem?_push, if_neg (Nat.ne_of_lt hq)]
  have n9 : ∀ y : Cell, (H.push y)[H.size]? = some y := fun y => Array.getElem?_push_size
  refine w _ _ arr _ (am_HM_new hH hfr ⟨by omega, by omega, by omega⟩ (hz9 _) (o9 _) ?_) ⟨Nat.le_trans hS.1 (by rw [hz9]; omega), fun q h1 h2 => (o9 _ q (by have := hS.1; omega)).trans (hS.2.1 q h1 h2), hS.2.2⟩ hL ⟨Or.inr ⟨hn9, by rw [hsz]⟩, hst⟩ (by simp only; omega) (by simp only; omega)
  have ht : am_t (am_a h 24 x.toInt (fun _ => -1)) (am_n h) = 24 := if_pos rfl
  refine (am_CO_q ht).mpr ⟨x.toNatClampNeg, fun _ => none, by rw [hsz]; exact n9 _, ?_, by omega, fun j hj => ?_⟩
  · have el : am_l (am_a h 24 x.toInt (fun _ => -1)) (am_n h) = x.toInt := if_pos rfl
    rw [el]
    omega
  · have em : am_m (am_a h 24 x.toInt (fun _ => -1)) (am_n h) (j : Int) = -1 := if_pos rfl
    rw [em]
    exact Or.inl ⟨rfl, rfl⟩
theorem am_i_anew_z (C : am_Cx G l d m p R s mth args meth cd) {idx : Nat} (hw : Cond.classLink (am_mn m).cls idx (FieldType.array .boolean).toString ∈ am_W) (hd : decode (am_cd m) pc = .ok (.anewarray idx, 3)) (w : am_stp X (am_Gl G m p l e R s mth args below meth cd Q) d hs K (am_pI st fun n r => am_ck (((0 ≤ n ∧ n ≤ 4096) ∧ am_fr h) ∧ c + 1 ≤ (am_cap m).1 ∧ s0 + n.toNat ≤ (am_cap m).2) (pc + 3, ls, (2, am_n h) :: r, am_a h 25 n (fun _ => -1), c + 1, s0 + n.toNat))) : am_Gl G m p l e R s mth args below meth cd Q (pc, ls, st, h, c, s0) := by
  obtain ⟨hx, hb, hml, hown, hts, hW, hR, hlk, htr, hin⟩ := C
  have w1 := am_pI_inv w
  clear w
  obtain ⟨n, r, rfl, w⟩ := w1
  obtain ⟨⟨⟨⟨hn0, hn1⟩, hfr⟩, hc1, hs1⟩, w⟩ := w
  intro H locs arr sv hH hS hL hst hc hs0
  dsimp only at hH hL hst hc hs0 ⊢
  have hq := am_RS_inv hst
  clear hst
  obtain ⟨VN, sv, rfl, hVN, hst⟩ := hq
  obtain ⟨x, rfl, rfl⟩ := hVN
  have hK : va_K (eD G) vwCl [(eI G, .int), (eY G, .byte), (eJ G, .long), (eZ G, .boolean), (eQ G, .array .int), (eR G, .array .boolean)] s := hW.1.1
  obtain ⟨hsz, hn9, -, -⟩ := hH.1.new hfr
  have ex0 : x.toNatClampNeg = x.toInt.toNat := rfl
  have hx0 : ¬ x < 0 := fun z => by
    have := Int32.lt_iff_toInt_lt.mp z
    have e0 : (0 : Int32).toInt = 0 := rfl
    omega
  refine W.anewA (t := .boolean) hx hb hown (hts _ hw) (show (Cond.arrayOver (.array .boolean)).before args s = true from over_moved (Vm.Alike.refl _) hW.1.2.2.2.2.2.2.2.2) rfl hd rfl hx0 (by omega) (by omega) (by omega) fun cA kA comp hA hkA hkind hcomp => ?_
  have ecA : cA = eR G := Option.some.inj (hA.symm.trans (hK.2 5 _ rfl).2)
  subst ecA
  have e9 : ({ cls := eR G, slots := Array.replicate x.toNatClampNeg .null, vm := .none } : Cell) = arrV (eR G) x.toNatClampNeg (fun j => va_rf ((fun _ => none : Nat → Option Nat) j)) := arrV_new _ _ _
  rw [e9]
  have hz9 : ∀ y : Cell, (H.push y).size = H.size + 1 := fun y => Array.size_push ..
  have o9 : ∀ (y : Cell) (q : Nat), q < H.size → (H.push y)[q]? = H[q]? := fun y q hq => by rw [Array.getElem?_push, if_neg (Nat.ne_of_lt hq)]
  have n9 : ∀ y : Cell, (H.push y)[H.size]? = some y := fun y => Array.getElem?_push_size
  refine w _ _ arr _ (am_HM_new hH hfr ⟨by omega, by omega, by omega⟩ (hz9 _) (o9 _) ?_) ⟨Nat.le_trans hS.1 (by rw [hz9]; omega), fun q h1 h2 => (o9 _ q (by have := hS.1; omega)).trans (hS.2.1 q h1 h2), hS.2.2⟩ hL ⟨Or.inr ⟨hn9, by rw [hsz]⟩, hst⟩ (by simp only; omega) (by simp only; omega)
  have ht : am_t (am_a h 25 x.toInt (fun _ => -1)) (am_n h) = 25 := if_pos rfl
  refine (am_CO_r ht).mpr ⟨x.toNatClampNeg, fun _ => none, by rw [hsz]; exact n9 _, ?_, by omega, fun j hj => ?_⟩
  · have el : am_l (am_a h 25 x.toInt (fun _ => -1)) (am_n h) = x.toInt := if_pos rfl
    rw [el]
    omega
  · have em : am_m (am_a h 25 x.toInt (fun _ => -1)) (am_n h) (j : Int) = -1 := if_pos rfl
    rw [em]
    exact Or.inl ⟨rfl, rfl⟩
theorem am_i_mna_i (C : am_Cx G l d m p R s mth args meth cd) {idx : Nat} (hw : Cond.classLink (am_mn m).cls idx ("[" ++ (FieldType.array .int).toString) ∈ am_W) (hw2 : Cond.arrayClass .int ∈ am_W) (hd : decode (am_cd m) pc = .ok (.multianewarray idx 2, 4)) (w : am_stp X (am_Gl G m p l e R s mth args below meth cd Q) d hs K (am_pI st fun k r => am_pI r fun n r => am_ck (((0 ≤ n ∧ n ≤ 64 ∧ 0 ≤ k ∧ k ≤ 64) ∧ am_fr h) ∧ c + (1 + n.toNat) ≤ (am_cap m).1 ∧ s0 + (n.toNat + n.toNat * k.toNat) ≤ (am_cap m).2) (pc + 4, ls, (2, am_n h) :: r, am_mk2 h 24 20 n k, c + (1 + n.toNat), s0 + (n.toNat + n.toNat * k.toNat)))) : am_Gl G m p l e R s mth args below meth cd Q (pc, ls, st, h, c, s0) := by
  obtain ⟨hx, hb, hml, hown, hts, hW, hR, hlk, htr, hin⟩ := C
  have w1 := am_pI_inv w
  clear w
  obtain ⟨k, r, rfl, w⟩ := w1
  have w1 := am_pI_inv w
  clear w
  obtain ⟨n, r, rfl, w⟩ := w1
  obtain ⟨⟨⟨⟨hn0, hn1, hk0, hk1⟩, hfr⟩, hc1, hs1⟩, w⟩ := w
  intro H locs arr sv hH hS hL hst hc hs0
  dsimp only at hH hL hst hc hs0 ⊢
  have hq := am_RS_inv hst
  clear hst
  obtain ⟨VK, sv, rfl, hVK, hst⟩ := hq
  have hq := am_RS_inv hst
  clear hst
  obtain ⟨VN, sv, rfl, hVN, hst⟩ := hq
  obtain ⟨y, rfl, rfl⟩ := hVK
  obtain ⟨x, rfl, rfl⟩ := hVN
  have hK : va_K (eD G) vwCl [(eI G, .int), (eY G, .byte), (eJ G, .long), (eZ G, .boolean), (eQ G, .array .int), (eR G, .array .boolean)] s := hW.1.1
  obtain ⟨hsz, hn9, hes, -⟩ := hH.1.new hfr
  have ex0 : x.toNatClampNeg = x.toInt.toNat := rfl
  have ey0 : y.toNatClampNeg = y.toInt.toNat := rfl
  have e0 : (0 : Int32).toInt = 0 := rfl
  have hx0 : ¬ x < 0 := fun z => by have := Int32.lt_iff_toInt_lt.mp z; omega
  have hy0 : ¬ y < 0 := fun z => by have := Int32.lt_iff_toInt_lt.mp z; omega
  intro T hT Xs
  have hnew := hH.1.new hfr
  obtain ⟨vm₁, cA, comp, -, fA, fC, -, -, X', step⟩ := Xs.multianewarray2F (ty := .int) hx hown (hts _ hw) (show (Cond.arrayOver (.array .int)).before args s = true from over_moved (Vm.Alike.refl _) hW.1.2.2.2.2.2.2.2.1) (hts _ hw2) (g := F0 mth pc arr (.int y :: .int x :: sv)) rfl (by rw [hb]; exact hd) rfl hx0 hy0 (by omega) (by show _ * 4 ≤ _; omega) (by omega) rfl rfl (by omega) (by rw [ex0, ey0]; have := hR.2.2.2; omega)
  have ecA : cA = eQ G := Option.some.inj (fA.symm.trans (hK.2 4 _ rfl).2)
  have ecC : comp = eI G := Option.some.inj (fC.symm.trans (hK.2 0 _ rfl).2)
  subst ecA
  subst ecC
  have hTh : (T.setVm vm₁).heap = H := hT
  obtain ⟨f1, f2, -, -⟩ := Jvm.Free.Multi.fill_facts (T.setVm vm₁) (eQ G) (eI G) x.toNatClampNeg y.toNatClampNeg (defaultValue .int) x.toNatClampNeg
  have f3 := fun a (ha : a < (T.setVm vm₁).heap.size) => Jvm.Free.Multi.fill_old (T.setVm vm₁) (eQ G) (eI G) x.toNatClampNeg y.toNatClampNeg (defaultValue .int) ha x.toNatClampNeg
  have f4 := fun j (hj : j < x.toNatClampNeg) => Jvm.Free.Multi.fill_inner (T.setVm vm₁) (eQ G) (eI G) x.toNatClampNeg y.toNatClampNeg (defaultValue .int) x.toNatClampNeg j hj
  generalize Jvm.Free.Multi.fill (T.setVm vm₁) (eQ G) (eI G) x.toNatClampNeg y.toNatClampNeg (defaultValue .int) x.toNatClampNeg = F at X' step f1 f2 f3 f4
  rw [hTh] at f1 f2 f3 f4
  have hf2 := hfr
  unfold am_fr at hf2
  have g1' := hH.1
  unfold am_ph at g1'
  have hea : ∀ j : Int, 0 ≤ j → j ≤ x.toInt → ea G (am_n h + j) = H.size + j.toNat := by
    intro j h0 h1
    have e := am_ea_hi (G := G) (a := am_n h + j) (by omega)
    rcases g1' with ⟨q1, q2, q3⟩ | ⟨q1, q2, q3, q4⟩
    · rw [if_neg (fun z => z.2 q1)] at e
      omega
    · rw [if_pos ⟨by omega, q1⟩] at e
      omega
  have ht : am_t (am_mk2 h 24 20 x.toInt y.toInt) (am_n h) = 24 := if_pos rfl
  have hHM : am_HM G (am_mk2 h 24 20 x.toInt y.toInt) F.heap := by
    refine am_HM_mk2 hH hfr ⟨hn0, hn1⟩ ⟨by omega, by omega, by omega⟩ ⟨by omega, by omega, by omega⟩ (by omega) f3 ?_ (fun j hj => ?_)
    · refine (am_CO_q ht).mpr ⟨x.toNatClampNeg, fun i => if i < x.toNatClampNeg then some (H.size + 1 + i) else none, ?_, ?_, by omega, fun j hj => ?_⟩
      · rw [hsz, f2]
        exact congrArg some (am_outer _ _ _ _)
      · have el : am_l (am_mk2 h 24 20 x.toInt y.toInt) (am_n h) = x.toInt := if_pos rfl
        rw [el]
        omega
      · have em : am_m (am_mk2 h 24 20 x.toInt y.toInt) (am_n h) (j : Int) = am_n h + 1 + (j : Int) := if_pos rfl
        rw [em]
        show am_RV G _ (va_rf (if j < x.toNatClampNeg then _ else _))
        rw [if_pos hj]
        refine Or.inr ⟨by simp only; omega, ?_⟩
        have e5 := hea (1 + (j : Int)) (by omega) (by omega)
        rw [show am_n h + (1 + (j : Int)) = am_n h + 1 + (j : Int) by omega] at e5
        refine congrArg Value.ref ?_
        show H.size + 1 + j = ea G (am_n h + 1 + (j : Int))
        omega
    · have hne : ¬ am_n h + 1 + (j : Int) = am_n h := by omega
      have hin2 : am_n h < am_n h + 1 + (j : Int) ∧ am_n h + 1 + (j : Int) ≤ am_n h + x.toInt := by omega
      have et : am_t (am_mk2 h 24 20 x.toInt y.toInt) (am_n h + 1 + (j : Int)) = 20 := (if_neg hne).trans (if_pos hin2)
      refine (am_CO_i et).mpr ⟨y.toNatClampNeg, fun _ => 0, ?_, ?_, by omega, fun i hi => ⟨?_, by show _ ≤ (0 : Int32).toInt; decide, by show (0 : Int32).toInt ≤ _; decide⟩⟩
      · have e5 := hea (1 + (j : Int)) (by omega) (by omega)
        rw [show am_n h + (1 + (j : Int)) = am_n h + 1 + (j : Int) by omega] at e5
        rw [e5, show H.size + (1 + (j : Int)).toNat = H.size + 1 + j by omega, f4 j (by omega)]
        exact congrArg some (arrV_new _ _ _)
      · have el : am_l (am_mk2 h 24 20 x.toInt y.toInt) (am_n h + 1 + (j : Int)) = y.toInt := (if_neg hne).trans (if_pos hin2)
        rw [el]
        omega
      · exact (if_neg hne).trans (if_pos hin2)
  obtain ⟨t, a1, b1⟩ := w F.heap locs arr (.ref H.size :: sv) hHM ⟨by have := hS.1; omega, fun q h1 h2 => (f3 q (by have := hS.1; omega)).trans (hS.2.1 q h1 h2), hS.2.2⟩ hL ⟨Or.inr ⟨hn9, by rw [hsz]⟩, hst⟩ (by simp only; omega) (by simp only; omega) F rfl (by rw [show c + (1 + x.toInt.toNat) = c + 1 + x.toNatClampNeg by omega, show s0 + (x.toInt.toNat + x.toInt.toNat * y.toInt.toNat) = s0 + x.toNatClampNeg + x.toNatClampNeg * y.toNatClampNeg by rw [ex0, ey0]; omega]; exact X')
  refine ⟨t, step t ?_, b1⟩
  have e : T.heap.size = H.size := by rw [hT]
  rw [e]
  exact a1
theorem am_i_mna_z (C : am_Cx G l d m p R s mth args meth cd) {idx : Nat} (hw : Cond.classLink (am_mn m).cls idx ("[" ++ (FieldType.array .boolean).toString) ∈ am_W) (hw2 : Cond.arrayClass .boolean ∈ am_W) (hd : decode (am_cd m) pc = .ok (.multianewarray idx 2, 4)) (w : am_stp X (am_Gl G m p l e R s mth args below meth cd Q) d hs K (am_pI st fun k r => am_pI r fun n r => am_ck (((0 ≤ n ∧ n ≤ 64 ∧ 0 ≤ k ∧ k ≤ 64) ∧ am_fr h) ∧ c + (1 + n.toNat) ≤ (am_cap m).1 ∧ s0 + (n.toNat + n.toNat * k.toNat) ≤ (am_cap m).2) (pc + 4, ls, (2, am_n h) :: r, am_mk2 h 25 23 n k, c + (1 + n.toNat), s0 + (n.toNat + n.toNat * k.toNat)))) : am_Gl G m p l e R s mth args below meth cd Q (pc, ls, st, h, c, s0) := by
  obtain ⟨hx, hb, hml, hown, hts, hW, hR, hlk, htr, hin⟩ := C
  have w1 := am_pI_inv w
  clear w
  obtain ⟨k, r, rfl, w⟩ := w1
  have w1 := am_pI_inv w
  clear w
  obtain ⟨n, r, rfl, w⟩ := w1
  obtain ⟨⟨⟨⟨hn0, hn1, hk0, hk1⟩, hfr⟩, hc1, hs1⟩, w⟩ := w
  intro H locs arr sv hH hS hL hst hc hs0
  dsimp only at hH hL hst hc hs0 ⊢
  have hq := am_RS_inv hst
  clear hst
  obtain ⟨VK, sv, rfl, hVK, hst⟩ := hq
  have hq := am_RS_inv hst
  clear hst
  obtain ⟨VN, sv, rfl, hVN, hst⟩ := hq
  obtain ⟨y, rfl, rfl⟩ := hVK
  obtain ⟨x, rfl, rfl⟩ := hVN
  have hK : va_K (eD G) vwCl [(eI G, .int), (eY G, .byte), (eJ G, .long), (eZ G, .boolean), (eQ G, .array .int), (eR G, .array .boolean)] s := hW.1.1
  obtain ⟨hsz, hn9, hes, -⟩ := hH.1.new hfr
  have ex0 : x.toNatClampNeg = x.toInt.toNat := rfl
  have ey0 : y.toNatClampNeg = y.toInt.toNat := rfl
  have e0 : (0 : Int32).toInt = 0 := rfl
  have hx0 : ¬ x < 0 := fun z => by have := Int32.lt_iff_toInt_lt.mp z; omega
  have hy0 : ¬ y < 0 := fun z => by have := Int32.lt_iff_toInt_lt.mp z; omega
  intro T hT Xs
  have hnew := hH.1.new hfr
  obtain ⟨vm₁, cA, comp, -, fA, fC, -, -, X', step⟩ := Xs.multianewarray2F (ty := .boolean) hx hown (hts _ hw) (show (Cond.arrayOver (.array .boolean)).before args s = true from over_moved (Vm.Alike.refl _) hW.1.2.2.2.2.2.2.2.2) (hts _ hw2) (g := F0 mth pc arr (.int y :: .int x :: sv)) rfl (by rw [hb]; exact hd) rfl hx0 hy0 (by omega) (by show _ * 1 ≤ _; omega) (by omega) rfl rfl (by omega) (by rw [ex0, ey0]; have := hR.2.2.2; omega)
  have ecA : cA = eR G := Option.some.inj (fA.symm.trans (hK.2 5 _ rfl).2)
  have ecC : comp = eZ G := Option.some.inj (fC.symm.trans (hK.2 3 _ rfl).2)
  subst ecA
  subst ecC
  have hTh : (T.setVm vm₁).heap = H := hT
  obtain ⟨f1, f2, -, -⟩ := Jvm.Free.Multi.fill_facts (T.setVm vm₁) (eR G) (eZ G) x.toNatClampNeg y.toNatClampNeg (defaultValue .boolean) x.toNatClampNeg
  have f3 := fun a (ha : a < (T.setVm vm₁).heap.size) => Jvm.Free.Multi.fill_old (T.setVm vm₁) (eR G) (eZ G) x.toNatClampNeg y.toNatClampNeg (defaultValue .boolean) ha x.toNatClampNeg
  have f4 := fun j (hj : j < x.toNatClampNeg) => Jvm.Free.Multi.fill_inner (T.setVm vm₁) (eR G) (eZ G) x.toNatClampNeg y.toNatClampNeg (defaultValue .boolean) x.toNatClampNeg j hj
  generalize Jvm.Free.Multi.fill (T.setVm vm₁) (eR G) (eZ G) x.toNatClampNeg y.toNatClampNeg (defaultValue .boolean) x.toNatClampNeg = F at X' step f1 f2 f3 f4
  rw [hTh] at f1 f2 f3 f4
  have hf2 := hfr
  unfold am_fr at hf2
  have g1' := hH.1
  unfold am_ph at g1'
  have hea : ∀ j : Int, 0 ≤ j → j ≤ x.toInt → ea G (am_n h + j) = H.size + j.toNat := by
    intro j h0 h1
    have e := am_ea_hi (G := G) (a := am_n h + j) (by omega)
    rcases g1' with ⟨q1, q2, q3⟩ | ⟨q1, q2, q3, q4⟩
    · rw [if_neg (fun z => z.2 q1)] at e
      omega
    · rw [if_pos ⟨by omega, q1⟩] at e
      omega
  have ht : am_t (am_mk2 h 25 23 x.toInt y.toInt) (am_n h) = 25 := if_pos rfl
  have hHM : am_HM G (am_mk2 h 25 23 x.toInt y.toInt) F.heap := by
    refine am_HM_mk2 hH hfr ⟨hn0, hn1⟩ ⟨by omega, by omega, by omega⟩ ⟨by omega, by omega, by omega⟩ (by omega) f3 ?_ (fun j hj => ?_)
    · refine (am_CO_r ht).mpr ⟨x.toNatClampNeg, fun i => if i < x.toNatClampNeg then some (H.size + 1 + i) else none, ?_, ?_, by omega, fun j hj => ?_⟩
      · rw [hsz, f2]
        exact congrArg some (am_outer _ _ _ _)
      · have el : am_l (am_mk2 h 25 23 x.toInt y.toInt) (am_n h) = x.toInt := if_pos rfl
        rw [el]
        omega
      · have em : am_m (am_mk2 h 25 23 x.toInt y.toInt) (am_n h) (j : Int) = am_n h + 1 + (j : Int) := if_pos rfl
        rw [em]
        show am_RV G _ (va_rf (if j < x.toNatClampNeg then _ else _))
        rw [if_pos hj]
        refine Or.inr ⟨by simp only; omega, ?_⟩
        have e5 := hea (1 + (j : Int)) (by omega) (by omega)
        rw [show am_n h + (1 + (j : Int)) = am_n h + 1 + (j : Int) by omega] at e5
        refine congrArg Value.ref ?_
        show H.size + 1 + j = ea G (am_n h + 1 + (j : Int))
        omega
    · have hne : ¬ am_n h + 1 + (j : Int) = am_n h := by omega
      have hin2 : am_n h < am_n h + 1 + (j : Int) ∧ am_n h + 1 + (j : Int) ≤ am_n h + x.toInt := by omega
      have et : am_t (am_mk2 h 25 23 x.toInt y.toInt) (am_n h + 1 + (j : Int)) = 23 := (if_neg hne).trans (if_pos hin2)
      refine (am_CO_z et).mpr ⟨y.toNatClampNeg, fun _ => 0, ?_, ?_, by omega, fun i hi => ⟨?_, by show _ ≤ (0 : Int32).toInt; decide, by show (0 : Int32).toInt ≤ _; decide⟩⟩
      · have e5 := hea (1 + (j : Int)) (by omega) (by omega)
        rw [show am_n h + (1 + (j : Int)) = am_n h + 1 + (j : Int) by omega] at e5
        rw [e5, show H.size + (1 + (j : Int)).toNat = H.size + 1 + j by omega, f4 j (by omega)]
        exact congrArg some (arrV_new _ _ _)
      · have el : am_l (am_mk2 h 25 23 x.toInt y.toInt) (am_n h + 1 + (j : Int)) = y.toInt := (if_neg hne).trans (if_pos hin2)
        rw [el]
        omega
      · exact (if_neg hne).trans (if_pos hin2)
  obtain ⟨t, a1, b1⟩ := w F.heap locs arr (.ref H.size :: sv) hHM ⟨by have := hS.1; omega, fun q h1 h2 => (f3 q (by have := hS.1; omega)).trans (hS.2.1 q h1 h2), hS.2.2⟩ hL ⟨Or.inr ⟨hn9, by rw [hsz]⟩, hst⟩ (by simp only; omega) (by simp only; omega) F rfl (by rw [show c + (1 + x.toInt.toNat) = c + 1 + x.toNatClampNeg by omega, show s0 + (x.toInt.toNat + x.toInt.toNat * y.toInt.toNat) = s0 + x.toNatClampNeg + x.toNatClampNeg * y.toNatClampNeg by rw [ex0, ey0]; omega]; exact X')
  refine ⟨t, step t ?_, b1⟩
  have e : T.heap.size = H.size := by rw [hT]
  rw [e]
  exact a1
def am_ad : Nat → String
  | 20 => "[I"
  | 21 => "[B"
  | _ => "[Z"
theorem am_i_clone (C : am_Cx G l d m p R s mth args meth cd) {idx t : Nat} (ht0 : t = 20 ∨ t = 21 ∨ t = 23) (w1 : Cond.methodLink (am_mn m).cls idx ⟨am_ad t, "clone", "()Ljava/lang/Object;"⟩ ∈ am_W) (w2 : Cond.sameMethod (am_ad t) "java/lang/Object" "clone" "()Ljava/lang/Object;" ∈ am_W) (w3 : Cond.native ⟨"java/lang/Object", "clone", "()Ljava/lang/Object;"⟩ ∈ am_W) (w4 : Cond.instanceMethod ⟨"java/lang/Object", "clone", "()Ljava/lang/Object;"⟩ ∈ am_W) (w5 : Cond.selects (am_ad t) ⟨am_ad t, "clone", "()Ljava/lang/Object;"⟩ ⟨"java/lang/Object", "clone", "()Ljava/lang/Object;"⟩ ∈ am_W) (w6 : Cond.castable (am_ad t) "java/lang/Cloneable" ∈ lw_tbl) (hd : decode (am_cd m) pc = .ok (.invokevirtual idx, 3)) (w : am_stp X (am_Gl G m p l e R s mth args below meth cd Q) d hs K (am_pR st fun a r => am_few r (am_ck ((am_t h a = t ∧ am_fr h) ∧ c + 1 ≤ (am_cap m).1 ∧ s0 + (am_l h a).toNat ≤ (am_cap m).2) (pc + 3, ls, (2, am_n h) :: r, am_a h t (am_l h a) (am_m h a), c + 1, s0 + (am_l h a).toNat)))) : am_Gl G m p l e R s mth args below meth cd Q (pc, ls, st, h, c, s0) := by
  obtain ⟨hx, hb, hml, hown, hts, hW, hR, hlk, htr, hin⟩ := C
  have w1 := am_pR_inv w
  clear w
  obtain ⟨a, r, rfl, w⟩ := w1
  obtain ⟨hfew, ⟨⟨ht, hfr⟩, hc1, hs1⟩, w⟩ := am_few_inv w
  intro H locs arr sv hH hS hL hst hc hs0
  dsimp only at hH hL hst hc hs0 ⊢
  have hq := am_RS_inv hst
  clear hst
  obtain ⟨VA, sv, rfl, hVA, hst⟩ := hq
  obtain ⟨g1, g2⟩ := hH.2.2 a (by omega)
  cases am_RVr hVA g1.1
  have hK : va_K (eD G) vwCl [(eI G, .int), (eY G, .byte), (eJ G, .long), (eZ G, .boolean), (eQ G, .array .int), (eR G, .array .boolean)] s := hW.1.1
  obtain ⟨hsz, hn9, hes, -⟩ := hH.1.new hfr
  have hcat := am_RS_cat hst
  have hfr1 := hR.1
  have hlo1 := hR.2.1
  have key : ∀ (cA : ClassId) (lo hi : Int) (ty : FieldType), ArrOfT s cA ty → s.vm.findClass (am_ad t) = some cA → (∀ x : Int32, lo ≤ x.toInt → x.toInt ≤ hi → fits ty (.int x) = true) → (∀ h1 H1, am_t h1 (am_n h) = t → am_CI G cA lo hi h1 (am_n h) H1 → am_CO G h1 (am_n h) H1) → am_CI G cA lo hi h a H → W p l e R s mth args below meth cd H locs c s0 Q (F0 mth pc arr (.ref (ea G a) :: sv)) := by
    intro cA lo hi ty hA hnm hfit hco hc2
    obtain ⟨n, f, b1, b2, b3, b4⟩ := hc2
    have hsl : (am_l h a).toNat = n := by omega
    obtain ⟨c0, t0', f1, f2, f3⟩ := Cond.castable_spec (va_Nw.use (A := args) rfl (hW.1.2.1 _ w6 rfl))
    cases hnm.symm.trans f1
    intro T hT X0
    have hcellT : T.heap[ea G a]? = some (arrV cA n (fun j => .int (f j))) := by rw [hT]; exact b1
    obtain ⟨-, kA, hkA, comp, hkind⟩ := State.isArrayOf_alike X0.warmed.alike (hA 0 (fun _ => .null))
    obtain ⟨-, kS, hkS, compS, hkindS⟩ := hA 0 (fun _ => .null)
    have hsz9 : (arrV cA n (fun j => Value.int (f j))).slots.size = n := arrV_size _ _ _
    obtain ⟨vm', X', stp⟩ := X0.cloneArray hx hown (hts _ w1) (hts _ w2) (hts _ w3) (hts _ w4) (hts _ w5) (a := ea G a) (cell := arrV cA n (fun j => .int (f j))) hcellT (fun k h => by cases h) (fun h => by cases h) hnm f2 f3
      (fun i v hv => by
        have hk' : T.vm.classes[(arrV cA n (fun j => Value.int (f j))).cls]? = some kA := hkA
        have hfv : fits ty v = true := va_fit (cA := cA) (n := n) (F := fun j => .int (f j)) (fun i hi => hfit _ (b4 i hi).2.1 (b4 i hi).2.2) i v hv
        simpa [State.fitsSlot, State.slotType?, hk', hkind] using hfv)
      (g := F0 mth pc arr (.ref (ea G a) :: sv)) rfl (hL.1.trans hml.symm) rfl (by rw [hb]; exact hd) (by omega) (by show 2 * 0 + _ + 14 ≤ _; rw [hcat]; omega) (by omega) (by rw [hsz9]; omega) (hloader := Vm.clonesLoader_of_array hkS hkindS)
    have hcE : ({ cls := (arrV cA n (fun j => Value.int (f j))).cls, slots := (arrV cA n (fun j => Value.int (f j))).slots } : Cell) = arrV cA n (fun j => .int (f j)) := rfl
    rw [hcE, hsz9] at X'
    have hz9 : (H.push (arrV cA n (fun j => Value.int (f j)))).size = H.size + 1 := Array.size_push ..
    have o9 : ∀ q : Nat, q < H.size → (H.push (arrV cA n (fun j => Value.int (f j))))[q]? = H[q]? := fun q hq => by rw [Array.getElem?_push, if_neg (Nat.ne_of_lt hq)]
    have n9 : (H.push (arrV cA n (fun j => Value.int (f j))))[H.size]? = some (arrV cA n (fun j => Value.int (f j))) := Array.getElem?_push_size
    have hHM : am_HM G (am_a h t (am_l h a) (am_m h a)) (H.push (arrV cA n (fun j => Value.int (f j)))) := by
      refine am_HM_new hH hfr ⟨by omega, by omega, by omega⟩ hz9 o9 (hco _ _ (if_pos rfl) ⟨n, f, by rw [hsz]; exact n9, ?_, b3, fun j hj => ?_⟩)
      · have el : am_l (am_a h t (am_l h a) (am_m h a)) (am_n h) = am_l h a := if_pos rfl
        rw [el]
        exact b2
      · have em : am_m (am_a h t (am_l h a) (am_m h a)) (am_n h) (j : Int) = am_m h a (j : Int) := if_pos rfl
        rw [em]
        exact b4 j hj
    obtain ⟨t9, a9, c9⟩ := w _ locs arr (.ref H.size :: sv) hHM ⟨by rw [hz9]; have := hS.1; omega, fun q h1 h2 => (o9 q (by have := hS.1; omega)).trans (hS.2.1 q h1 h2), hS.2.2⟩ hL ⟨Or.inr ⟨hn9, by rw [hsz]⟩, hst⟩ (by simp only; omega) (by simp only; omega) ((T.setVm vm').pushCell (arrV cA n (fun j => .int (f j)))) (by rw [← hT]; rfl) (by rw [show s0 + (am_l h a).toNat = s0 + n by omega]; exact X')
    refine ⟨t9, stp t9 ?_, c9⟩
    rw [hcE, hT]
    exact a9
  rcases ht0 with e | e | e <;> subst e
  · exact key _ _ _ .int (hK.2 0 _ rfl).1 (hK.2 0 _ rfl).2 (fun x _ _ => rfl) (fun h1 H1 e1 hc3 => (am_CO_i e1).mpr hc3) ((am_CO_i ht).mp g2)
  · refine key _ _ _ .byte (hK.2 1 _ rfl).1 (va_nm_byte (hK.2 1 _ rfl).2) (fun x h1 h2 => ?_) (fun h1 H1 e1 hc3 => (am_CO_y e1).mpr hc3) ((am_CO_y ht).mp g2)
    have := fb_byte0 (x := x) h1 (by omega)
    rw [← this]
    exact pk_fb x
  · refine key _ _ _ .boolean (hK.2 3 _ rfl).1 (va_nm_boolean (hK.2 3 _ rfl).2) (fun x h1 h2 => ?_) (fun h1 H1 e1 hc3 => (am_CO_z e1).mpr hc3) ((am_CO_z ht).mp g2)
    rcases (show x.toInt = 0 ∨ x.toInt = 1 by omega) with z | z
    · have ex : x = 0 := Int32.toInt_inj.mp z
      subst ex
      rfl
    · have ex : x = 1 := Int32.toInt_inj.mp z
      subst ex
      rfl
theorem am_i_cast (C : am_Cx G l d m p R s mth args meth cd) {idx t : Nat} (ht0 : t = 20 ∨ t = 21 ∨ t = 23) (hw : Cond.classLink (am_mn m).cls idx (am_ad t) ∈ am_W) (hd : decode (am_cd m) pc = .ok (.checkcast idx, 3)) (w : am_stp X (am_Gl G m p l e R s mth args below meth cd Q) d hs K (am_pR st fun a r => am_ck (am_t h a = t) (pc + 3, ls, (2, a) :: r, h, c, s0))) : am_Gl G m p l e R s mth args below meth cd Q (pc, ls, st, h, c, s0) := by
  obtain ⟨hx, hb, hml, hown, hts, hW, hR, hlk, htr, hin⟩ := C
  have w1 := am_pR_inv w
  clear w
  obtain ⟨a, r, rfl, w⟩ := w1
  obtain ⟨ht, w⟩ := w
  intro H locs arr sv hH hS hL hst hc hs0
  dsimp only at hH hL hst hc hs0 ⊢
  have hq := am_RS_inv hst
  clear hst
  obtain ⟨VA, sv, rfl, hVA, hst⟩ := hq
  obtain ⟨g1, g2⟩ := hH.2.2 a (by omega)
  have hVA0 := hVA
  cases am_RVr hVA g1.1
  have hK : va_K (eD G) vwCl [(eI G, .int), (eY G, .byte), (eJ G, .long), (eZ G, .boolean), (eQ G, .array .int), (eR G, .array .boolean)] s := hW.1.1
  have key : ∀ (cA : ClassId) (lo hi : Int), s.vm.findClass (am_ad t) = some cA → am_CI G cA lo hi h a H → W p l e R s mth args below meth cd H locs c s0 Q (F0 mth pc arr (.ref (ea G a) :: sv)) := by
    intro cA lo hi hnm hc2
    obtain ⟨n, f, b1, b2, b3, b4⟩ := hc2
    intro T hT X0
    obtain ⟨vm', X', stp⟩ := X0.checkcastYes hx hown (hts _ hw) (by rw [hT]; exact b1) rfl hnm (va_asg _ _) (g := F0 mth pc arr (.ref (ea G a) :: sv)) rfl rfl (by rw [hb]; exact hd)
    obtain ⟨t9, a9, c9⟩ := w H locs arr (.ref (ea G a) :: sv) hH hS hL ⟨hVA0, hst⟩ hc hs0 (T.setVm vm') hT X'
    exact ⟨t9, stp t9 a9, c9⟩
  rcases ht0 with e | e | e <;> subst e
  · exact key _ _ _ (hK.2 0 _ rfl).2 ((am_CO_i ht).mp g2)
  · exact key _ _ _ (va_nm_byte (hK.2 1 _ rfl).2) ((am_CO_y ht).mp g2)
  · exact key _ _ _ (va_nm_boolean (hK.2 3 _ rfl).2) ((am_CO_z ht).mp g2)
theorem am_i_d2l (C : am_Cx G l d m p R s mth args meth cd) {idx : Nat} (w1 : Cond.methodLink (am_mn m).cls idx ⟨"java/lang/Double", "doubleToRawLongBits", "(D)J"⟩ ∈ am_W) (w2 : Cond.static ⟨"java/lang/Double", "doubleToRawLongBits", "(D)J"⟩ ∈ am_W) (w3 : Cond.initialized "java/lang/Double" ∈ am_W) (w4 : Cond.native ⟨"java/lang/Double", "doubleToRawLongBits", "(D)J"⟩ ∈ am_W) (hd : decode (am_cd m) pc = .ok (.invokestatic idx, 3)) (w : am_stp X (am_Gl G m p l e R s mth args below meth cd Q) d hs K (am_pD st fun a r => am_few r (am_go (pc + 3, ls, (1, am_d2l a) :: r, h, c, s0)))) : am_Gl G m p l e R s mth args below meth cd Q (pc, ls, st, h, c, s0) := by
  obtain ⟨hx, hb, hml, hown, hts, hW, hR, hlk, htr, hin⟩ := C
  have w1 := am_pD_inv w
  clear w
  obtain ⟨a, r, rfl, w⟩ := w1
  obtain ⟨hfew, w⟩ := am_few_inv w
  intro H locs arr sv hH hS hL hst hc hs0
  dsimp only at hH hL hst hc hs0 ⊢
  have hq := am_RS_inv hst
  clear hst
  obtain ⟨VA, sv, rfl, hVA, hst⟩ := hq
  obtain ⟨x, rfl, rfl⟩ := hVA
  have hcat := am_RS_cat hst
  have hfr1 := hR.1
  have hlo1 := hR.2.1
  refine vn_d2l hx hb (hml.trans hL.1.symm) hown (hts _ w1) (hts _ w4) (hts _ w2) (hts _ w3) (by omega) (by rw [hcat]; omega) hd ?_
  refine w H locs arr _ hH hS hL ⟨⟨_, rfl, ?_⟩, hst⟩ hc hs0
  show am_d2l (x.toNat : Int) = _
  unfold am_d2l
  rw [am_bits]
theorem am_i_dab (C : am_Cx G l d m p R s mth args meth cd) {idx : Nat} (w1 : Cond.methodLink (am_mn m).cls idx Jvm.Free.NT.mathAbs64N ∈ am_W) (w2 : Cond.static Jvm.Free.NT.mathAbs64N ∈ am_W) (w3 : Cond.initialized "java/lang/Math" ∈ am_W) (w4 : Cond.code Jvm.Free.NT.mathAbs64N prog_24_method_64_code 2 (some .double) ∈ am_W) (hd : decode (am_cd m) pc = .ok (.invokestatic idx, 3)) (w : am_stp X (am_Gl G m p l e R s mth args below meth cd Q) d hs K (am_pD st fun a r => am_few r (am_ck (am_dnn a = true) (pc + 3, ls, (3, am_dab a) :: r, h, c, s0)))) : am_Gl G m p l e R s mth args below meth cd Q (pc, ls, st, h, c, s0) := by
  obtain ⟨hx, hb, hml, hown, hts, hW, hR, hlk, htr, hin⟩ := C
  have w1 := am_pD_inv w
  clear w
  obtain ⟨a, r, rfl, w⟩ := w1
  obtain ⟨hfew, hv, w⟩ := am_few_inv w
  intro H locs arr sv hH hS hL hst hc hs0
  dsimp only at hH hL hst hc hs0 ⊢
  have hq := am_RS_inv hst
  clear hst
  obtain ⟨VA, sv, rfl, hVA, hst⟩ := hq
  obtain ⟨x, rfl, rfl⟩ := hVA
  have hcat := am_RS_cat hst
  have hfr1 := hR.1
  have hlo1 := hR.2.1
  have hx1 : UInt64.ofNat ((x.toNat : Int)).toNat = x := am_bits x
  unfold am_dnn at hv
  rw [hx1] at hv
  have hv1 := of_decide_eq_true hv
  intro T hT X0
  obtain ⟨mk, hnm⟩ := Cond.code_named (hts _ w4)
  obtain ⟨mM, cM, hmM, -, -, -, -, -, -, hsig⟩ := Cond.code_spec hnm (hts _ w4)
  obtain ⟨vm', X', stp⟩ := X0.staticQ hx hown (hts _ w1) (hts _ w2) (hts _ w3) hnm hmM hsig (by decide) (W := (sv.map fun v => v.category).sum)
    (P := fun (g : UInt64) a _ => a = #[.double g] ∧ g &&& 0x7fffffffffffffff ≤ 0x7ff0000000000000) (val := fun g => some (.double (g &&& 0x7fffffffffffffff)))
    (Jvm.Free.NT.Abs64.pays (hts _ w4) (hts _ w2) (by omega) (by rw [hcat]; omega))
    (g := F0 mth pc arr (.double x :: sv)) rfl (hml.trans hL.1.symm).symm (argsL := [.double x]) (rest := sv)
    (fun sig hs => by rw [Jvm.Free.NT.mathAbs64_desc] at hs; rw [← Option.some.inj hs]; rfl) rfl (by show 2 * 0 + _ ≤ _; omega) (by rw [hb]; exact hd) x (fun _ _ => ⟨rfl, hv1⟩)
  obtain ⟨t9, a9, c9⟩ := w H locs arr (.double (x &&& 0x7fffffffffffffff) :: sv) hH hS hL ⟨⟨_, rfl, (by show am_dab (x.toNat : Int) = _; unfold am_dab; rw [hx1])⟩, hst⟩ hc hs0 (T.setVm vm') hT X'
  exact ⟨t9, stp t9 a9, c9⟩
theorem am_i_ldcd (C : am_Cx G l d m p R s mth args meth cd) {idx : Nat} {v : Int} (hv : 0 ≤ v ∧ v < 18446744073709551616) (hw : Cond.constantDouble (am_mn m).cls idx (UInt64.ofNat v.toNat) ∈ am_W) (hd : decode (am_cd m) pc = .ok (.ldc2_w idx, 3)) (w : am_stp X (am_Gl G m p l e R s mth args below meth cd Q) d hs K (am_go (pc + 3, ls, (3, v) :: st, h, c, s0))) : am_Gl G m p l e R s mth args below meth cd Q (pc, ls, st, h, c, s0) := by
  obtain ⟨hx, hb, hml, hown, hts, hW, hR, hlk, htr, hin⟩ := C
  intro H locs arr sv hH hS hL hst hc hs0
  dsimp only at hH hL hst hc hs0 ⊢
  refine lv_ldc2d hx hb hown (hts _ hw) hd ?_
  refine w H locs arr _ hH hS hL ⟨⟨_, rfl, ?_⟩, hst⟩ hc hs0
  simp only
  have : (UInt64.ofNat v.toNat).toNat = v.toNat := UInt64.toNat_ofNat_of_lt' (by show _ < 18446744073709551616; omega)
  omega
theorem am_i_sval (C : am_Cx G l d m p R s mth args meth cd) {idx : Nat} (hw : Cond.fieldLink (am_mn m).cls idx "java/lang/String" "value" "[B" ∈ am_W) (hf : am_fok m idx 9 0 2 ("java/lang/String", TJ0, 4)) (hd : decode (am_cd m) pc = .ok (.getfield idx, 3)) {a : Int} {r : List AV} (hst0 : st = (2, a) :: r) (w : am_stp X (am_Gl G m p l e R s mth args below meth cd Q) d hs K (am_ck (am_t h a = 9 ∨ am_t h a = 18) (pc + 3, ls, (2, am_m h a 0) :: r, h, c, s0))) : am_Gl G m p l e R s mth args below meth cd Q (pc, ls, st, h, c, s0) := by
  obtain ⟨ht, w⟩ := w
  subst hst0
  by_cases h9 : am_t h a = 9
  · exact am_i_getfield (X := X) (d := d) (hs := hs) (K := K) C hf hd ⟨h9, w⟩
  · have h18 : am_t h a = 18 := by omega
    obtain ⟨hx, hb, hml, hown, hts, hW, hR, hlk, htr, hin⟩ := C
    intro H locs arr sv hH hS hL hst hc hs0
    dsimp only at hH hL hst hc hs0 ⊢
    have hq := am_RS_inv hst
    clear hst
    obtain ⟨VA, sv, rfl, hVA, hst⟩ := hq
    obtain ⟨g1, g2⟩ := hH.2.2 a (by omega)
    cases am_RVr hVA g1.1
    obtain ⟨j, j1, j2, j3, j4⟩ := (am_CO_s h18).mp g2
    obtain ⟨-, s2, s3, -⟩ := hW.2.1 j j1
    have e1 : ea G a = ek G j := by rw [j2]; exact am_ea_k G j
    rw [e1]
    refine vk_getf hx hb s3 hS hown (hts _ hw) (fun x hx => hx) hd ?_
    exact w H locs arr _ hH hS hL ⟨Or.inr ⟨by simp only; omega, by rw [j3, am_ea_v]⟩, hst⟩ hc hs0
theorem am_i_scod (C : am_Cx G l d m p R s mth args meth cd) {idx : Nat} (hw : Cond.fieldLink (am_mn m).cls idx "java/lang/String" "coder" "B" ∈ am_W) (hf : am_fok m idx 9 1 0 ("java/lang/String", TJ0, 4)) (hd : decode (am_cd m) pc = .ok (.getfield idx, 3)) {a : Int} {r : List AV} (hst0 : st = (2, a) :: r) (w : am_stp X (am_Gl G m p l e R s mth args below meth cd Q) d hs K (am_ck (am_t h a = 9 ∨ am_t h a = 18) (pc + 3, ls, (0, am_m h a 1) :: r, h, c, s0))) : am_Gl G m p l e R s mth args below meth cd Q (pc, ls, st, h, c, s0) := by
  obtain ⟨ht, w⟩ := w
  subst hst0
  by_cases h9 : am_t h a = 9
  · exact am_i_getfield (X := X) (d := d) (hs := hs) (K := K) C hf hd ⟨h9, w⟩
  · have h18 : am_t h a = 18 := by omega
    obtain ⟨hx, hb, hml, hown, hts, hW, hR, hlk, htr, hin⟩ := C
    intro H locs arr sv hH hS hL hst hc hs0
    dsimp only at hH hL hst hc hs0 ⊢
    have hq := am_RS_inv hst
    clear hst
    obtain ⟨VA, sv, rfl, hVA, hst⟩ := hq
    obtain ⟨g1, g2⟩ := hH.2.2 a (by omega)
    cases am_RVr hVA g1.1
    obtain ⟨j, j1, j2, j3, j4⟩ := (am_CO_s h18).mp g2
    obtain ⟨-, s2, s3, -⟩ := hW.2.1 j j1
    have e1 : ea G a = ek G j := by rw [j2]; exact am_ea_k G j
    rw [e1]
    refine vk_getf hx hb s2 hS hown (hts _ hw) (fun x hx => hx) hd ?_
    exact w H locs arr _ hH hS hL ⟨⟨0, rfl, by simp only; rw [j4]; rfl⟩, hst⟩ hc hs0
theorem am_i_baload2 (C : am_Cx G l d m p R s mth args meth cd) (hd : decode (am_cd m) pc = .ok (.baload, 1)) (w : am_stp X (am_Gl G m p l e R s mth args below meth cd Q) d hs K (am_pI st fun i r => am_pR r fun a r => am_ck ((am_t h a = 21 ∨ am_t h a = 26) ∧ 0 ≤ i ∧ i < am_l h a) (pc + 1, ls, (0, am_m h a i) :: r, h, c, s0))) : am_Gl G m p l e R s mth args below meth cd Q (pc, ls, st, h, c, s0) := by
  have w1 := am_pI_inv w
  clear w
  obtain ⟨i, r, rfl, w⟩ := w1
  have w1 := am_pR_inv w
  clear w
  obtain ⟨a, r, rfl, w⟩ := w1
  obtain ⟨⟨ht, hi0, hi1⟩, w⟩ := w
  by_cases h21 : am_t h a = 21
  · exact am_i_baload (X := X) (d := d) (hs := hs) (K := K) C hd ⟨⟨h21, hi0, hi1⟩, w⟩
  · have h26 : am_t h a = 26 := by omega
    obtain ⟨hx, hb, hml, hown, hts, hW, hR, hlk, htr, hin⟩ := C
    intro H locs arr sv hH hS hL hst hc hs0
    dsimp only at hH hL hst hc hs0 ⊢
    have hq := am_RS_inv hst
    clear hst
    obtain ⟨VI, sv, rfl, hVI, hst⟩ := hq
    have hq := am_RS_inv hst
    clear hst
    obtain ⟨VA, sv, rfl, hVA, hst⟩ := hq
    obtain ⟨x, rfl, rfl⟩ := hVI
    obtain ⟨g1, g2⟩ := hH.2.2 a (by omega)
    cases am_RVr hVA g1.1
    obtain ⟨j, j1, j2, j3, j4⟩ := (am_CO_b h26).mp g2
    obtain ⟨N, s4, s5, s6, s7⟩ := am_cTf hW j1
    have e1 : ea G a = ev G j := by rw [j2]; exact am_ea_v G j
    rw [e1]
    rw [j3, s5] at hi1
    obtain ⟨k1, k2, k3⟩ := am_ix hi0 hi1
    refine va_tb hx hb s4 hS k1 rfl hd ?_
    refine w H locs arr _ hH hS hL ⟨⟨_, rfl, ?_⟩, hst⟩ hc hs0
    have := s7 _ k2
    simp only
    rw [am_ofInt (by omega), k3, j4 _ hi0 (by rw [s5]; exact hi1)]
theorem am_i_gs63 (C : am_Cx G l d m p R s mth args meth cd) {idx : Nat} (hw : Cond.fieldLink (am_mn m).cls idx "java/lang/Integer" "DigitOnes" "[B" ∈ am_W) (hd : decode (am_cd m) pc = .ok (.getstatic idx, 3)) (w : am_stp X (am_Gl G m p l e R s mth args below meth cd Q) d hs K (am_go (pc + 3, ls, (2, -300000073) :: st, h, c, s0))) : am_Gl G m p l e R s mth args below meth cd Q (pc, ls, st, h, c, s0) := by
  obtain ⟨hx, hb, hml, hown, hts, hW, hR, hlk, htr, hin⟩ := C
  intro H locs arr sv hH hS hL hst hc hs0
  dsimp only at hH hL hst hc hs0 ⊢
  refine va_gets hx hb hW.2.2.1.1.1 hS hown (hts _ hw) (fun x hx => hx) hd ?_
  exact w H locs arr _ hH hS hL ⟨Or.inr ⟨by simp only; omega, congrArg Value.ref (am_ea_v G 36).symm⟩, hst⟩ hc hs0
theorem am_i_gs64 (C : am_Cx G l d m p R s mth args meth cd) {idx : Nat} (hw : Cond.fieldLink (am_mn m).cls idx "java/lang/Integer" "DigitTens" "[B" ∈ am_W) (hd : decode (am_cd m) pc = .ok (.getstatic idx, 3)) (w : am_stp X (am_Gl G m p l e R s mth args below meth cd Q) d hs K (am_go (pc + 3, ls, (2, -300000075) :: st, h, c, s0))) : am_Gl G m p l e R s mth args below meth cd Q (pc, ls, st, h, c, s0) := by
  obtain ⟨hx, hb, hml, hown, hts, hW, hR, hlk, htr, hin⟩ := C
  intro H locs arr sv hH hS hL hst hc hs0
  dsimp only at hH hL hst hc hs0 ⊢
  refine va_gets hx hb hW.2.2.1.2.1.1 hS hown (hts _ hw) (fun x hx => hx) hd ?_
  exact w H locs arr _ hH hS hL ⟨Or.inr ⟨by simp only; omega, congrArg Value.ref (am_ea_v G 37).symm⟩, hst⟩ hc hs0
end SIM
