/-! ===== what a row has to show: numbers by a program (am_chk), words by their places (am_wok) ===== -/
def am_q0 : vw_C := ("", fun _ => ("", "", "", false), 0)
def am_q (r1 : Nat) : vw_C := am_nth vwCl (r1 - 1) am_q0
def am_ty (r1 k : Nat) : Option FieldType := parseFieldDescriptor ((am_q r1).2.1 k).2.2.1
def am_isr : Option FieldType → Bool
  | some (.object _) => true
  | some (.array _) => true
  | _ => false
def am_rng (r1 : Nat) : Bool := Nat.ble 1 r1 && Nat.ble r1 9
theorem am_rng_q {r1 : Nat} (h : am_rng r1 = true) : vwCl[r1 - 1]? = some (am_q r1) ∧ 1 ≤ r1 ∧ r1 ≤ 9 := by
  unfold am_rng at h
  rw [Bool.and_eq_true] at h
  have h1 := Nat.le_of_ble_eq_true h.1
  have h2 := Nat.le_of_ble_eq_true h.2
  refine ⟨?_, h1, h2⟩
  match r1, h1, h2 with
  | 1, _, _ => rfl
  | 2, _, _ => rfl
  | 3, _, _ => rfl
  | 4, _, _ => rfl
  | 5, _, _ => rfl
  | 6, _, _ => rfl
  | 7, _, _ => rfl
  | 8, _, _ => rfl
  | 9, _, _ => rfl
def am_cls (r1 : Nat) : Bool :=
  ((List.range (am_q r1).2.2).all fun k => ((decide (am_ty r1 k = some .int) || (decide (am_ty r1 k = some .byte) || decide (am_ty r1 k = some .boolean))) && (Nat.beq ((am_ft r1).getD k 0) 0 && decide (am_df r1 (k : Int) = 0))) || (am_isr (am_ty r1 k) && (Nat.beq ((am_ft r1).getD k 0) 2 && decide (am_df r1 (k : Int) = -1)))) &&
  ((List.range (am_q r1).2.2).all fun k => (List.range (am_q r1).2.2).all fun j => decide (k = j) || !(((am_q r1).2.1 k).2.1 == ((am_q r1).2.1 j).2.1))
theorem am_cls_all : ∀ r1 : Nat, r1 < 10 → 1 ≤ r1 → am_cls r1 = true := by decide +kernel
theorem am_uw1 : ∀ w ∈ u_ws (am_q 1).1 (am_q 1).2.1 (am_q 1).2.2, w ∈ am_W := by
  intro w hw
  obtain ⟨k, hk, rfl⟩ := List.mem_map.mp hw
  have hk : k < 7 := List.mem_range.mp hk
  match k, hk with
  | 0, _ => exact am_k306
  | 1, _ => exact am_k308
  | 2, _ => exact am_k310
  | 3, _ => exact am_k312
  | 4, _ => exact am_k314
  | 5, _ => exact am_k316
  | 6, _ => exact am_k318
  | k + 7, h => exact absurd h (by omega)
theorem am_uw2 : ∀ w ∈ u_ws (am_q 2).1 (am_q 2).2.1 (am_q 2).2.2, w ∈ am_W := by
  intro w hw
  obtain ⟨k, hk, rfl⟩ := List.mem_map.mp hw
  have hk : k < 5 := List.mem_range.mp hk
  match k, hk with
  | 0, _ => exact am_k281
  | 1, _ => exact am_k283
  | 2, _ => exact am_k285
  | 3, _ => exact am_k287
  | 4, _ => exact am_k289
  | k + 5, h => exact absurd h (by omega)
theorem am_uw3 : ∀ w ∈ u_ws (am_q 3).1 (am_q 3).2.1 (am_q 3).2.2, w ∈ am_W := by
  intro w hw
  obtain ⟨k, hk, rfl⟩ := List.mem_map.mp hw
  have hk : k < 15 := List.mem_range.mp hk
  match k, hk with
  | 0, _ => exact am_k347
  | 1, _ => exact am_k349
  | 2, _ => exact am_k351
  | 3, _ => exact am_k353
  | 4, _ => exact am_k355
  | 5, _ => exact am_k357
  | 6, _ => exact am_k359
  | 7, _ => exact am_k361
  | 8, _ => exact am_k363
  | 9, _ => exact am_k365
  | 10, _ => exact am_k367
  | 11, _ => exact am_k369
  | 12, _ => exact am_k371
  | 13, _ => exact am_k373
  | 14, _ => exact am_k375
  | k + 15, h => exact absurd h (by omega)
theorem am_uw4 : ∀ w ∈ u_ws (am_q 4).1 (am_q 4).2.1 (am_q 4).2.2, w ∈ am_W := by
  intro w hw
  obtain ⟨k, hk, rfl⟩ := List.mem_map.mp hw
  have hk : k < 15 := List.mem_range.mp hk
  match k, hk with
  | 0, _ => exact am_k146
  | 1, _ => exact am_k148
  | 2, _ => exact am_k150
  | 3, _ => exact am_k152
  | 4, _ => exact am_k154
  | 5, _ => exact am_k156
  | 6, _ => exact am_k158
  | 7, _ => exact am_k160
  | 8, _ => exact am_k162
  | 9, _ => exact am_k164
  | 10, _ => exact am_k166
  | 11, _ => exact am_k168
  | 12, _ => exact am_k170
  | 13, _ => exact am_k172
  | 14, _ => exact am_k174
  | k + 15, h => exact absurd h (by omega)
theorem am_uw5 : ∀ w ∈ u_ws (am_q 5).1 (am_q 5).2.1 (am_q 5).2.2, w ∈ am_W := by
  intro w hw
  obtain ⟨k, hk, rfl⟩ := List.mem_map.mp hw
  have hk : k < 7 := List.mem_range.mp hk
  match k, hk with
  | 0, _ => exact am_k250
  | 1, _ => exact am_k252
  | 2, _ => exact am_k254
  | 3, _ => exact am_k256
  | 4, _ => exact am_k258
  | 5, _ => exact am_k260
  | 6, _ => exact am_k262
  | k + 7, h => exact absurd h (by omega)
theorem am_uw6 : ∀ w ∈ u_ws (am_q 6).1 (am_q 6).2.1 (am_q 6).2.2, w ∈ am_W := by
  intro w hw
  obtain ⟨k, hk, rfl⟩ := List.mem_map.mp hw
  have hk : k < 10 := List.mem_range.mp hk
  match k, hk with
  | 0, _ => exact am_k388
  | 1, _ => exact am_k390
  | 2, _ => exact am_k392
  | 3, _ => exact am_k394
  | 4, _ => exact am_k396
  | 5, _ => exact am_k398
  | 6, _ => exact am_k400
  | 7, _ => exact am_k402
  | 8, _ => exact am_k404
  | 9, _ => exact am_k406
  | k + 10, h => exact absurd h (by omega)
theorem am_uw7 : ∀ w ∈ u_ws (am_q 7).1 (am_q 7).2.1 (am_q 7).2.2, w ∈ am_W := by
  intro w hw
  obtain ⟨k, hk, rfl⟩ := List.mem_map.mp hw
  have hk : k < 10 := List.mem_range.mp hk
  match k, hk with
  | 0, _ => exact am_k882
  | 1, _ => exact am_k884
  | 2, _ => exact am_k886
  | 3, _ => exact am_k888
  | 4, _ => exact am_k890
  | 5, _ => exact am_k892
  | 6, _ => exact am_k894
  | 7, _ => exact am_k896
  | 8, _ => exact am_k898
  | 9, _ => exact am_k900
  | k + 10, h => exact absurd h (by omega)
theorem am_uw8 : ∀ w ∈ u_ws (am_q 8).1 (am_q 8).2.1 (am_q 8).2.2, w ∈ am_W := by
  intro w hw
  obtain ⟨k, hk, rfl⟩ := List.mem_map.mp hw
  have hk : k < 4 := List.mem_range.mp hk
  match k, hk with
  | 0, _ => exact am_k1339
  | 1, _ => exact am_k1341
  | 2, _ => exact am_k1343
  | 3, _ => exact am_k1345
  | k + 4, h => exact absurd h (by omega)
theorem am_uw9 : ∀ w ∈ u_ws (am_q 9).1 (am_q 9).2.1 (am_q 9).2.2, w ∈ am_W := by
  intro w hw
  obtain ⟨k, hk, rfl⟩ := List.mem_map.mp hw
  have hk : k < 4 := List.mem_range.mp hk
  match k, hk with
  | 0, _ => exact am_k1396
  | 1, _ => exact am_k1398
  | 2, _ => exact am_k1400
  | 3, _ => exact am_k1402
  | k + 4, h => exact absurd h (by omega)
theorem am_fld {r1 : Nat} (h : am_rng r1 = true) : (∀ w ∈ u_ws (am_q r1).1 (am_q r1).2.1 (am_q r1).2.2, w ∈ am_W) ∧
    (∀ k, k < (am_q r1).2.2 → ((am_ty r1 k = some .int ∨ am_ty r1 k = some .byte ∨ am_ty r1 k = some .boolean) ∧ (am_ft r1).getD k 0 = 0 ∧ am_df r1 (k : Int) = 0) ∨ (am_isr (am_ty r1 k) = true ∧ (am_ft r1).getD k 0 = 2 ∧ am_df r1 (k : Int) = -1)) ∧
    (∀ a, a < (am_q r1).2.2 → ∀ b, b < (am_q r1).2.2 → a ≠ b → ((am_q r1).2.1 a).2.1 ≠ ((am_q r1).2.1 b).2.1) := by
  obtain ⟨-, h1, h2⟩ := am_rng_q h
  have hc := am_cls_all r1 (by omega) h1
  unfold am_cls at hc
  simp only [Bool.and_eq_true, List.all_eq_true, List.mem_range, Bool.or_eq_true, decide_eq_true_eq, Bool.not_eq_true', beq_eq_false_iff_ne, beq_iff_eq] at hc
  obtain ⟨c2, c3⟩ := hc
  refine ⟨?_, fun k hk => ?_, fun a ha b hb hab => ?_⟩
  · match r1, h1, h2 with
    | 1, _, _ => exact am_uw1
    | 2, _, _ => exact am_uw2
    | 3, _, _ => exact am_uw3
    | 4, _, _ => exact am_uw4
    | 5, _, _ => exact am_uw5
    | 6, _, _ => exact am_uw6
    | 7, _, _ => exact am_uw7
    | 8, _, _ => exact am_uw8
    | 9, _, _ => exact am_uw9
  · rcases c2 k hk with ⟨e1, e2, e3⟩ | ⟨e1, e2, e3⟩
    · exact Or.inl ⟨e1, Nat.eq_of_beq_eq_true e2, e3⟩
    · exact Or.inr ⟨e1, Nat.eq_of_beq_eq_true e2, e3⟩
  · rcases c3 a ha b hb with z | z
    · exact absurd z hab
    · exact z
def am_ty0 (r1 k : Nat) : FieldType := (am_ty r1 k).getD .int
theorem am_ty0_ok {r1 : Nat} (h : am_rng r1 = true) : ∀ k, k < (am_q r1).2.2 → parseFieldDescriptor ((am_q r1).2.1 k).2.2.1 = some (am_ty0 r1 k) := by
  intro k hk
  unfold am_ty0
  rcases (am_fld h).2.1 k hk with ⟨e1, -⟩ | ⟨e1, -⟩
  · rcases e1 with e1 | e1 | e1 <;> rw [e1] <;> exact e1
  · cases hq : am_ty r1 k with
    | none => rw [hq] at e1; cases e1
    | some t => exact hq
theorem am_ty0_r {r1 k : Nat} (e1 : am_isr (am_ty r1 k) = true) : (∃ n, am_ty0 r1 k = .object n) ∨ ∃ t, am_ty0 r1 k = .array t := by
  unfold am_ty0
  cases hq : am_ty r1 k with
  | none => rw [hq] at e1; cases e1
  | some t =>
    rw [hq] at e1
    cases t with
    | object n => exact Or.inl ⟨n, rfl⟩
    | array t => exact Or.inr ⟨t, rfl⟩
    | _ => cases e1
/-- the word of a field's link -/
def am_fl (m idx r1 r2 : Nat) : Prop := Cond.fieldLink (am_mn m).cls idx ((am_q r1).2.1 r2).1 ((am_q r1).2.1 r2).2.1 ((am_q r1).2.1 r2).2.2.1 ∈ am_W ∨ ∃ host, Cond.fieldLinkNest (am_mn m).cls idx ((am_q r1).2.1 r2).1 ((am_q r1).2.1 r2).2.1 ((am_q r1).2.1 r2).2.2.1 host ∈ lw_tbl
def am_fc (r1 r2 ty : Nat) : Bool := am_rng r1 && (Nat.blt r2 (am_q r1).2.2 && Nat.beq ((am_ft r1).getD r2 0) ty)
theorem am_fc_ok {m idx r1 r2 ty : Nat} (h : am_fc r1 r2 ty = true) (hl : am_fl m idx r1 r2) : am_rng r1 = true ∧ r2 < (am_q r1).2.2 ∧ (am_ft r1).getD r2 0 = ty ∧ am_fok m idx r1 r2 ty (am_q r1) := by
  unfold am_fc at h
  simp only [Bool.and_eq_true] at h
  obtain ⟨h1, h2, h3⟩ := h
  have h2 : r2 < (am_q r1).2.2 := Nat.le_of_ble_eq_true h2
  obtain ⟨g1, g2, g3⟩ := am_rng_q h1
  obtain ⟨k1, k2, k3⟩ := am_fld h1
  exact ⟨h1, h2, Nat.eq_of_beq_eq_true h3, g1, h2, Nat.eq_of_beq_eq_true h3, g2, g3, k1, hl⟩
def am_np (m : Nat) : Option Nat := (parseMethodDescriptor (am_mn m).desc).map (fun d => d.parameters.length)
def am_isS (kind : Nat) : Bool := Nat.beq kind 2 || (Nat.beq kind 3 || Nat.beq kind 15)
def am_isV (kind : Nat) : Bool := Nat.beq kind 0 || (Nat.beq kind 1 || Nat.beq kind 14)
def am_isI (kind : Nat) : Bool := Nat.beq kind 4 || Nat.beq kind 5
/-- what a call's row shows, the words apart -/
def am_cb (m pc kind m2 r3 : Nat) : Bool :=
  Nat.blt m2 179 && ((if am_isS kind then Nat.beq r3 0 && decide (am_np m2 = some (am_na m2)) else !(Nat.beq r3 0) && (Nat.ble 1 (am_na m2) && decide (am_np m2 = some (am_na m2 - 1)))) &&
  ((if am_isV kind then (Nat.beq r3 60 && decide ((am_mn m2).cls = "java/lang/String")) || (am_rng r3 && decide ((am_q r3).1 = (am_mn m2).cls)) else true) &&
  ((if am_isI kind then decide ((am_mn m2).name = "<init>") && ((Nat.beq r3 61 || Nat.beq r3 62) && decide (am_re m2 = none)) else true) &&
  ((if Nat.beq kind 15 then decide (am_hh m2 ≠ []) else decide (am_hh m2 = [])) && (if Nat.beq kind 14 then true else am_unc (am_hd m) pc)))))
def am_lnk (m kind idx m2 : Nat) : Prop := match kind with
  | 1 => ∃ host, Cond.methodLinkNest (am_mn m).cls idx (am_mn m2) host ∈ lw_tbl
  | 3 => ∃ host, Cond.methodLinkNest (am_mn m).cls idx (am_mn m2) host ∈ lw_tbl
  | 5 => ∃ host, Cond.methodLinkNest (am_mn m).cls idx (am_mn m2) host ∈ lw_tbl
  | _ => Cond.methodLink (am_mn m).cls idx (am_mn m2) ∈ am_W
def am_cwS (m kind idx m2 : Nat) : Prop := am_lnk m kind idx m2 ∧ Cond.initialized (am_mn m2).cls ∈ am_W ∧ Cond.static (am_mn m2) ∈ am_W
def am_cwV (m kind idx m2 : Nat) : Prop := am_lnk m kind idx m2 ∧ Cond.initialized (am_mn m2).cls ∈ am_W ∧ Cond.instanceMethod (am_mn m2) ∈ am_W ∧ Cond.selects (am_mn m2).cls (am_mn m2) (am_mn m2) ∈ am_W
def am_cwI (m kind idx m2 : Nat) : Prop := am_lnk m kind idx m2 ∧ Cond.initialized (am_mn m2).cls ∈ am_W ∧ Cond.instanceMethod (am_mn m2) ∈ am_W
theorem am_bb (a b : Nat) : Nat.beq a b = true ↔ a = b := ⟨Nat.eq_of_beq_eq_true, fun z => by rw [z]; exact Nat.beq_refl b⟩
theorem am_lnk_p {m kind idx m2 : Nat} (h : am_lnk m kind idx m2) : (¬ (kind = 1 ∨ kind = 3 ∨ kind = 5) → Cond.methodLink (am_mn m).cls idx (am_mn m2) ∈ am_W) ∧ ((kind = 1 ∨ kind = 3 ∨ kind = 5) → ∃ host, Cond.methodLinkNest (am_mn m).cls idx (am_mn m2) host ∈ lw_tbl) := by
  unfold am_lnk at h
  split at h
  · exact ⟨fun z => absurd (Or.inl rfl) z, fun _ => h⟩
  · exact ⟨fun z => absurd (Or.inr (Or.inl rfl)) z, fun _ => h⟩
  · exact ⟨fun z => absurd (Or.inr (Or.inr rfl)) z, fun _ => h⟩
  · rename_i n1 n2 n3
    exact ⟨fun _ => h, fun z => by rcases z with z | z | z <;> first | exact absurd z n1 | exact absurd z n2 | exact absurd z n3⟩
theorem am_cb_ok {m pc kind idx m2 r3 : Nat} (hm : ∀ m2, m2 < 179 → am_mok m2) (h : am_cb m pc kind m2 r3 = true) (hl : am_lnk m kind idx m2) (hi : Cond.initialized (am_mn m2).cls ∈ am_W) (hst : am_isS kind = true → Cond.static (am_mn m2) ∈ am_W) (hin : am_isS kind = false → Cond.instanceMethod (am_mn m2) ∈ am_W) (hse : am_isV kind = true → Cond.selects (am_mn m2).cls (am_mn m2) (am_mn m2) ∈ am_W) : am_cok m pc kind idx m2 r3 := by
  unfold am_cb at h
  simp only [Bool.and_eq_true] at h
  obtain ⟨h1, h4, h5, h6, h7, h8⟩ := h
  obtain ⟨l1, l2⟩ := am_lnk_p hl
  refine ⟨hm _ (Nat.le_of_ble_eq_true h1), hi, fun hk => l1 (by omega), fun hk => l2 hk, fun hk => ?_, fun hk => ?_, fun hk => ?_, fun hk => ?_, fun hk => ?_, fun hk => ?_, fun hk => ?_⟩
  · have hn : am_isS kind = true := by
      unfold am_isS
      simp only [Bool.or_eq_true, am_bb]
      omega
    rw [if_pos hn] at h4
    simp only [Bool.and_eq_true, am_bb, decide_eq_true_eq] at h4
    exact ⟨hst hn, h4.1, h4.2⟩
  · have hn : ¬ am_isS kind = true := by
      unfold am_isS
      simp only [Bool.or_eq_true, am_bb]
      omega
    rw [if_neg hn] at h4
    simp only [Bool.and_eq_true, Bool.not_eq_true', decide_eq_true_eq] at h4
    refine ⟨hin (by simpa using hn), fun z => ?_, Nat.le_of_ble_eq_true h4.2.1, h4.2.2⟩
    have h9 := h4.1
    rw [z] at h9
    cases h9
  · have hn : am_isV kind = true := by
      unfold am_isV
      simp only [Bool.or_eq_true, am_bb]
      omega
    rw [if_pos hn] at h5
    simp only [Bool.and_eq_true, Bool.or_eq_true, am_bb, decide_eq_true_eq] at h5
    refine ⟨hse hn, ?_, ?_⟩
    · rcases h5 with ⟨a2, -⟩ | ⟨a2, -⟩
      · omega
      · have := am_rng_q a2
        omega
    · rcases h5 with ⟨a2, a3⟩ | ⟨a2, a3⟩
      · exact Or.inl ⟨a2, a3⟩
      · obtain ⟨b1, b2, b3⟩ := am_rng_q a2
        exact Or.inr (Or.inr (Or.inr ⟨by omega, by omega, by omega, b2, b3, _, b1, a3⟩))
  · have hn : am_isI kind = true := by
      unfold am_isI
      simp only [Bool.or_eq_true, am_bb]
      omega
    rw [if_pos hn] at h6
    simp only [Bool.and_eq_true, Bool.or_eq_true, am_bb, decide_eq_true_eq] at h6
    exact h6
  · have hn : ¬ Nat.beq kind 15 = true := by
      rw [am_bb]
      exact hk
    rw [if_neg hn] at h7
    exact of_decide_eq_true h7
  · rw [if_pos ((am_bb _ _).mpr hk)] at h7
    exact of_decide_eq_true h7
  · have hn : ¬ Nat.beq kind 14 = true := by
      rw [am_bb]
      exact hk
    rw [if_neg hn] at h8
    exact h8
/-- a method that catches -/
def am_hb (m : Nat) : Bool := decide (am_hh m = (am_hd m).map (fun e => (e.1, e.2.1, e.2.2.1, am_ct e.2.2.2))) && (((am_hd m).all fun e => Nat.ble 1 e.2.2.2 && Nat.ble e.2.2.2 1) && decide ((am_mn m).cls = "BudgetJuryLaw"))
theorem am_hb_ok {m : Nat} (h : am_hb m = true) : am_hok m := by
  unfold am_hb at h
  simp only [Bool.and_eq_true, decide_eq_true_eq, List.all_eq_true] at h
  obtain ⟨h1, h2, h3⟩ := h
  refine ⟨h1, fun e he => ?_⟩
  obtain ⟨a1, a2⟩ := h2 e he
  have a1 := Nat.le_of_ble_eq_true a1
  have a2 := Nat.le_of_ble_eq_true a2
  rw [h3]
  match e.2.2.2, a1, a2 with
  | 1, _, _ => exact ⟨⟨by omega, by omega⟩, am_k1427, am_k938⟩
/-- a throw's words -/
def am_thw (ic k : Nat) : Bool := (vx_atS "BudgetJury" ic (am_en k) ["java/lang/RuntimeException", "java/lang/Exception"]).all fun w => decide (w ∈ lw_tbl) && ((goodWord w || am_isN w) && vx_ot w)
theorem am_thw1 : am_thw 73 1 = true := by decide +kernel
theorem am_thw2 : am_thw 84 2 = true := by decide +kernel
theorem am_thw3 : am_thw 111 3 = true := by decide +kernel
def am_thb (m pc is ic k : Nat) : Bool := (Nat.beq k 1 && Nat.beq ic 73 || (Nat.beq k 2 && Nat.beq ic 84 || Nat.beq k 3 && Nat.beq ic 111)) && (decide ((am_mn m).cls = "BudgetJury") && (decide (am_hh m = []) &&
  (decide (decode (am_cd m) (pc + 3) = .ok (.dup, 1)) && (decide (decode (am_cd m) (pc + 4) = .ok (.ldc is, 2)) && (decide (decode (am_cd m) (pc + 6) = .ok (.invokespecial ic, 3)) && (decide (decode (am_cd m) (pc + 9) = .ok (.athrow, 1)) &&
  am_msg.any fun q => q.1 == "BudgetJury" && Nat.beq q.2.1 is))))))
theorem am_thb_ok {m pc ik is ic k : Nat} (h : am_thb m pc is ic k = true) (hd : decode (am_cd m) pc = .ok (.new ik, 3)) (w1 : Cond.classLink (am_mn m).cls ik (am_en k) ∈ am_W) (w2 : Cond.initialized (am_en k) ∈ am_W) : am_tok m pc k := by
  unfold am_thb at h
  simp only [Bool.and_eq_true, decide_eq_true_eq, List.any_eq_true, Bool.or_eq_true, am_bb, beq_iff_eq] at h
  obtain ⟨h1, h2, h3, h4, h5, h6, h7, ⟨c, i, tx⟩, h8, h9, h10⟩ := h
  dsimp only at h9 h10
  subst h9 h10
  have hw : am_thw ic k = true := by
    rcases h1 with ⟨rfl, rfl⟩ | ⟨rfl, rfl⟩ | ⟨rfl, rfl⟩
    · exact am_thw1
    · exact am_thw2
    · exact am_thw3
  refine ⟨ik, i, ic, tx, by omega, by omega, hd, h4, h5, h6, h7, w1, w2, by rw [h2]; exact h8, fun w hw9 => ?_, h3⟩
  rw [h2] at hw9
  unfold am_thw at hw
  have := List.all_eq_true.mp hw w hw9
  simp only [Bool.and_eq_true, decide_eq_true_eq, Bool.or_eq_true] at this
  obtain ⟨g1, g2, g3⟩ := this
  refine ⟨?_, g3⟩
  rcases g2 with g2 | g2
  · exact Or.inl (List.mem_filter.mpr ⟨List.mem_append_right _ g1, g2⟩)
  · exact Or.inr ⟨g1, g2⟩
/-- what a call of an inherited method shows -/
def am_ub (m pc kind m2 : Nat) : Bool := Nat.blt m2 179 && (Nat.ble 1 (am_na m2) && (decide (am_np m2 = some (am_na m2 - 1)) && (decide (am_hh m2 = []) && (am_unc (am_hd m) pc && (if Nat.beq kind 10 then decide (am_mn m2 = ⟨am_bN, "length", "()I"⟩) else decide ((am_mn m2).cls = am_aN) && decide ((am_mn m2).name ≠ "<init>"))))))
def am_uw (m kind idx m2 : Nat) : Prop := Cond.initialized (am_mn m2).cls ∈ am_W ∧ Cond.instanceMethod (am_mn m2) ∈ am_W ∧
  (kind = 8 → Cond.methodLink (am_mn m).cls idx (am_mn m2) ∈ am_W ∧ Cond.sameMethod am_aN am_aN (am_mn m2).name (am_mn m2).desc ∈ am_W ∧ Cond.selects am_bN (am_mn m2) (am_mn m2) ∈ am_W) ∧
  (kind = 10 → Cond.methodLink (am_mn m).cls idx ⟨am_aN, "length", "()I"⟩ ∈ am_W ∧ Cond.sameMethod am_aN am_aN "length" "()I" ∈ am_W ∧ Cond.instanceMethod ⟨am_aN, "length", "()I"⟩ ∈ am_W ∧ Cond.selects am_bN ⟨am_aN, "length", "()I"⟩ ⟨am_bN, "length", "()I"⟩ ∈ am_W) ∧
  (kind = 9 → Cond.methodLink (am_mn m).cls idx (am_mn m2) ∈ am_W ∧ Cond.sameMethod am_aN am_aN (am_mn m2).name (am_mn m2).desc ∈ am_W ∧ Cond.superclass (am_mn m).cls am_aN ∈ am_W)
theorem am_ub_ok {m pc kind idx m2 : Nat} (hm : ∀ m2, m2 < 179 → am_mok m2) (hk : kind = 8 ∨ kind = 9 ∨ kind = 10) (h : am_ub m pc kind m2 = true) (hw : am_uw m kind idx m2) : am_uok m pc kind idx m2 := by
  unfold am_ub at h
  simp only [Bool.and_eq_true, decide_eq_true_eq] at h
  obtain ⟨h1, h2, h3, h4, h5, h6⟩ := h
  obtain ⟨w1, w2, w8, w10, w9⟩ := hw
  refine ⟨hm _ (Nat.le_of_ble_eq_true h1), w1, w2, Nat.le_of_ble_eq_true h2, h3, h4, h5, fun k => ?_, fun k => ?_, fun k => ?_⟩
  · subst k
    have h6 : (decide ((am_mn m2).cls = am_aN) && decide ((am_mn m2).name ≠ "<init>")) = true := h6
    simp only [Bool.and_eq_true, decide_eq_true_eq] at h6
    exact ⟨h6.1, w8 rfl⟩
  · subst k
    have h6 : decide (am_mn m2 = ⟨am_bN, "length", "()I"⟩) = true := h6
    obtain ⟨a, b, c, d⟩ := w10 rfl
    exact ⟨of_decide_eq_true h6, a, b, c, d, _, _, _, am_k1373⟩
  · subst k
    have h6 : (decide ((am_mn m2).cls = am_aN) && decide ((am_mn m2).name ≠ "<init>")) = true := h6
    simp only [Bool.and_eq_true, decide_eq_true_eq] at h6
    exact ⟨h6.1, h6.2, w9 rfl⟩
