/-! ===== the abstract machine beside the real one: values, locals, heaps ===== -/
/-- where the jury's cells begin (0 as long as there is none), the script's cell, where the law's cells begin; texts' cells and their bytes' cells; classes; array classes; the script -/
abbrev am_En : Type := (Nat × Nat × Nat) × ((Nat → Nat) × (Nat → Nat)) × va_G × ((ClassId × ClassId × ClassId) × (ClassId × ClassId × ClassId)) × (Nat × (Nat → Int32))
def eB (G : am_En) : Nat := G.1.1
def eb (G : am_En) : Nat := G.1.2.1
def eS (G : am_En) : Nat := G.1.2.2
def ek (G : am_En) (j : Nat) : Nat := G.2.1.1 j
def ev (G : am_En) (j : Nat) : Nat := G.2.1.2 j
def eD (G : am_En) : va_G := G.2.2.1
def eI (G : am_En) : ClassId := G.2.2.2.1.1.1
def eY (G : am_En) : ClassId := G.2.2.2.1.1.2.1
def eJ (G : am_En) : ClassId := G.2.2.2.1.1.2.2
def eZ (G : am_En) : ClassId := G.2.2.2.1.2.1
def eQ (G : am_En) : ClassId := G.2.2.2.1.2.2.1
def eR (G : am_En) : ClassId := G.2.2.2.1.2.2.2
def eL (G : am_En) : Nat := G.2.2.2.2.1
def ex (G : am_En) (j : Nat) : Int32 := G.2.2.2.2.2 j
/-- the real place of an address: constants far below, what is made ahead of the jury below 0, the jury and what comes behind it from 0 on -/
def ea (G : am_En) (a : Int) : Nat := if a ≤ -300000000 then (if (-a - 300000000) % 2 = 0 then ek G ((-a - 300000000).toNat / 2) else ev G ((-a - 300000000).toNat / 2)) else if 0 ≤ a ∧ eB G ≠ 0 then eB G + a.toNat else eS G + (a + 100000000).toNat
/-- what a row of constant bytes holds -/
def am_kc (j : Nat) (i : Int) : Int := if j < 36 then am_tb (j : Int) i else if j = 36 then 48 + i % 10 else 48 + i / 10
def am_cn (j : Nat) : Int := if j < 36 then am_tn (j : Int) else 100
def am_RV (G : am_En) (v : AV) (V : Value) : Prop := match v.1 with
  | 0 => ∃ x : Int32, V = .int x ∧ v.2 = x.toInt
  | 1 => ∃ x : Int64, V = .long x ∧ v.2 = x.toInt
  | 2 => (v.2 = -1 ∧ V = .null) ∨ (¬ v.2 = -1 ∧ V = .ref (ea G v.2))
  | 3 => ∃ x : UInt64, V = .double x ∧ v.2 = (x.toNat : Int)
  | 4 => V = .ref (eb G)
  | 5 => 0 ≤ v.2 ∧ v.2 < 36 ∧ V = .ref (ek G v.2.toNat)
  | 7 => 0 ≤ v.2 ∧ v.2 < 36 ∧ V = .ref (ev G v.2.toNat)
  | 10 => ∃ q, V = .ref q
  | 11 => V = .null ∨ ∃ q, V = .ref q
  | _ => False
/-- what is listed stands in the locals; a long or double only while its second half does -/
def am_hold (ls : List AV) (i : Nat) : Prop := (am_get ls i).1 < 8 ∨ (am_get ls i).1 = 11
def am_RL (G : am_En) (n : Nat) (ls : List AV) (arr : Array Slot) : Prop :=
  arr.size = n ∧ ls.length = n ∧ lv_wf arr ∧ ∀ i, am_hold ls i → (((am_get ls i).1 = 1 ∨ (am_get ls i).1 = 3) → (am_get ls (i + 1)).1 = 8) → ∃ V, arr[i]? = some (.val V) ∧ am_RV G (am_get ls i) V
def am_CI (G : am_En) (cA : ClassId) (lo hi : Int) (h : AH) (a : Int) (H : Heap) : Prop := ∃ (n : Nat) (f : Nat → Int32), H[ea G a]? = some (arrV cA n (fun j => .int (f j))) ∧ am_l h a = (n : Int) ∧ n ≤ 4096 ∧ ∀ j : Nat, j < n → am_m h a (j : Int) = (f j).toInt ∧ lo ≤ (f j).toInt ∧ (f j).toInt ≤ hi
def am_CQ (G : am_En) (cA : ClassId) (h : AH) (a : Int) (H : Heap) : Prop := ∃ (n : Nat) (f : Nat → Option Nat), H[ea G a]? = some (arrV cA n (fun j => va_rf (f j))) ∧ am_l h a = (n : Int) ∧ n ≤ 4096 ∧ ∀ j : Nat, j < n → am_RV G (2, am_m h a (j : Int)) (va_rf (f j))
def am_CO (G : am_En) (h : AH) (a : Int) (H : Heap) : Prop := match am_t h a with
  | 20 => am_CI G (eI G) (-2147483648) 2147483647 h a H
  | 21 => am_CI G (eY G) (-128) 127 h a H
  | 22 => ∃ (n : Nat) (f : Nat → Int64), H[ea G a]? = some (arrV (eJ G) n (fun j => .long (f j))) ∧ am_l h a = (n : Int) ∧ n ≤ 4096 ∧ ∀ j : Nat, j < n → am_m h a (j : Int) = (f j).toInt
  | 23 => am_CI G (eZ G) 0 1 h a H
  | 24 => am_CQ G (eQ G) h a H
  | 25 => am_CQ G (eR G) h a H
  | 18 => ∃ j : Nat, j < 36 ∧ a = -(300000000 + 2 * (j : Int)) ∧ am_m h a 0 = -(300000000 + 2 * (j : Int) + 1) ∧ am_m h a 1 = 0
  | 26 => ∃ j : Nat, j < 38 ∧ a = -(300000000 + 2 * (j : Int) + 1) ∧ am_l h a = am_cn j ∧ ∀ i : Int, 0 ≤ i → i < am_cn j → am_m h a i = am_kc j i
  | t => ∃ (q : vw_C) (V : Nat → Value), vwCl[t - 1]? = some q ∧ t_OB (ea G a) ((eD G).1 (t - 1)) q.2.2 ((eD G).2 (t - 1)) H V ∧ ∀ k : Nat, k < q.2.2 → am_RV G ((am_ft t).getD k 0, am_m h a (k : Int)) (V k)
/-- which part of the heap is being made -/
def am_ph (G : am_En) (h : AH) (H : Heap) : Prop := (eB G = 0 ∧ -100000000 ≤ am_n h ∧ H.size = eS G + (am_n h + 100000000).toNat) ∨ (eB G ≠ 0 ∧ eS G ≤ eB G ∧ 0 ≤ am_n h ∧ H.size = eB G + (am_n h).toNat)
def am_ok (G : am_En) (h : AH) (H : Heap) (a : Int) : Prop := ¬ a = -1 ∧ ((-100000000 ≤ a ∧ a < am_n h ∧ eS G ≤ ea G a ∧ ea G a < H.size ∧ (a < 0 → eB G ≠ 0 → ea G a < eB G) ∧ ¬ am_t h a = 18 ∧ ¬ am_t h a = 26) ∨ (a ≤ -300000000 ∧ (am_t h a = 18 ∨ am_t h a = 26) ∧ ea G a < eS G))
def am_HM (G : am_En) (h : AH) (H : Heap) : Prop :=
  am_ph G h H ∧ (am_sl h = (eL G : Int) ∧ ∀ j : Nat, j < eL G → am_sx h (j : Int) = (ex G j).toInt) ∧ ∀ a : Int, am_t h a ≠ 0 → am_ok G h H a ∧ am_CO G h a H
theorem am_RVr {G : am_En} {a : Int} {V : Value} (h : am_RV G (2, a) V) (ha : ¬ a = -1) : V = .ref (ea G a) := by
  rcases h with ⟨h, -⟩ | ⟨-, h⟩
  · exact absurd h ha
  · exact h
/-- what may be written -/
def am_wt (t : Nat) : Prop := t ≠ 0 ∧ t ≠ 18 ∧ t ≠ 26
theorem am_HM.o {G : am_En} {h : AH} {H : Heap} {a : Int} (hH : am_HM G h H) (ha : am_t h a ≠ 0) : ¬ a = -1 ∧ ea G a < H.size := by
  obtain ⟨h1, h2⟩ := (hH.2.2 a ha).1
  refine ⟨h1, ?_⟩
  rcases h2 with ⟨-, -, -, h3, -⟩ | ⟨-, -, h3⟩
  · exact h3
  · have := hH.1
    unfold am_ph at this
    omega
theorem am_HM.w {G : am_En} {h : AH} {H : Heap} {a : Int} (hH : am_HM G h H) (ha : am_wt (am_t h a)) : ¬ a = -1 ∧ eS G ≤ ea G a ∧ ea G a < H.size ∧ -100000000 ≤ a ∧ a < am_n h ∧ (a < 0 → eB G ≠ 0 → ea G a < eB G) := by
  obtain ⟨h1, h2⟩ := (hH.2.2 a ha.1).1
  refine ⟨h1, ?_⟩
  rcases h2 with ⟨h3, h4, h5, h6, h7, -⟩ | ⟨-, h3, -⟩
  · exact ⟨h5, h6, h3, h4, h7⟩
  · obtain ⟨-, q1, q2⟩ := ha
    rcases h3 with h3 | h3
    · exact absurd h3 q1
    · exact absurd h3 q2
theorem am_ea_hi {G : am_En} {a : Int} (h : -100000000 ≤ a) : ea G a = if 0 ≤ a ∧ eB G ≠ 0 then eB G + a.toNat else eS G + (a + 100000000).toNat := if_neg (by omega)
/-- different cells have different places -/
theorem am_HM.ne {G : am_En} {h : AH} {H : Heap} {a b : Int} (hH : am_HM G h H) (ha : am_wt (am_t h a)) (hb : am_t h b ≠ 0) (hab : ¬ b = a) : ea G b ≠ ea G a := by
  obtain ⟨a1, a2, a3, a4, a5, a6⟩ := hH.w ha
  by_cases hw : am_wt (am_t h b)
  · obtain ⟨b1, b2, b3, b4, b5, b6⟩ := hH.w hw
    have e1 := am_ea_hi (G := G) a4
    have e2 := am_ea_hi (G := G) b4
    by_cases c0 : eB G ≠ 0
    · by_cases c1 : 0 ≤ a <;> by_cases c2 : 0 ≤ b
      · rw [if_pos ⟨c1, c0⟩] at e1
        rw [if_pos ⟨c2, c0⟩] at e2
        omega
      · have := b6 (by omega) c0
        rw [if_pos ⟨c1, c0⟩] at e1
        omega
      · have := a6 (by omega) c0
        rw [if_pos ⟨c2, c0⟩] at e2
        omega
      · rw [if_neg (fun z => c1 z.1)] at e1
        rw [if_neg (fun z => c2 z.1)] at e2
        omega
    · rw [if_neg (fun z => c0 z.2)] at e1
      rw [if_neg (fun z => c0 z.2)] at e2
      omega
  · obtain ⟨b1, b2⟩ := (hH.2.2 b hb).1
    rcases b2 with ⟨-, -, -, -, -, q1, q2⟩ | ⟨-, -, q⟩
    · exact absurd ⟨hb, q1, q2⟩ hw
    · omega
/-- the next cell's place -/
theorem am_ph.new {G : am_En} {h : AH} {H : Heap} (hp : am_ph G h H) (hf : am_fr h) : ea G (am_n h) = H.size ∧ ¬ am_n h = -1 ∧ eS G ≤ H.size ∧ -100000000 ≤ am_n h := by
  unfold am_ph at hp
  unfold am_fr at hf
  have h0 : -100000000 ≤ am_n h := by omega
  have e := am_ea_hi (G := G) h0
  refine ⟨?_, by omega, by omega, h0⟩
  rcases hp with ⟨p1, p2, p3⟩ | ⟨p1, p2, p3, p4⟩
  · rw [if_neg (fun z => z.2 p1)] at e
    omega
  · rw [if_pos ⟨p3, p1⟩] at e
    omega
/-- private methods are selected for a builder too -/
def am_sb : List Cond := [(Jvm.Cond.selects "java/lang/StringBuilder" ({ cls := "java/lang/AbstractStringBuilder", name := "ensureCapacityInternal", desc := "(I)V" } : Jvm.MethodName) ({ cls := "java/lang/AbstractStringBuilder", name := "ensureCapacityInternal", desc := "(I)V" } : Jvm.MethodName)), (Jvm.Cond.selects "java/lang/StringBuilder" ({ cls := "java/lang/AbstractStringBuilder", name := "newCapacity", desc := "(I)I" } : Jvm.MethodName) ({ cls := "java/lang/AbstractStringBuilder", name := "newCapacity", desc := "(I)I" } : Jvm.MethodName)), (Jvm.Cond.selects "java/lang/StringBuilder" ({ cls := "java/lang/AbstractStringBuilder", name := "putStringAt", desc := "(ILjava/lang/String;)V" } : Jvm.MethodName) ({ cls := "java/lang/AbstractStringBuilder", name := "putStringAt", desc := "(ILjava/lang/String;)V" } : Jvm.MethodName)), (Jvm.Cond.selects "java/lang/StringBuilder" ({ cls := "java/lang/AbstractStringBuilder", name := "inflateIfNeededFor", desc := "(Ljava/lang/String;)V" } : Jvm.MethodName) ({ cls := "java/lang/AbstractStringBuilder", name := "inflateIfNeededFor", desc := "(Ljava/lang/String;)V" } : Jvm.MethodName))]
def am_W : List Cond := (am_sb ++ lw_tbl).filter goodWord
def am_isN : Cond → Bool
  | .fieldLinkNest .. => true
  | .methodLinkNest .. => true
  | .castable .. => true
  | .declares .. => true
  | _ => false
def am_own (j : Nat) : String × Nat × String := am_nth [("BudgetJury$Tokens", 31, "ward cap project cost in grows voter likes budget ban when year pot purse fans built pleased not and or min max "), ("BudgetJury$Tokens", 91, "()[];,+-*/<>="), ("BudgetJuryLaw", 35, "p"), ("BudgetJuryLaw", 54, "v"), ("BudgetJuryLaw", 59, "year/"), ("BudgetJuryLaw", 61, "*"), ("BudgetJuryLaw", 63, "=year"), ("BudgetJuryLaw", 65, "pot<"), ("BudgetJuryLaw", 67, "built "), ("BudgetJuryLaw", 69, "likes "), ("BudgetJuryLaw", 71, " "), ("BudgetJuryLaw", 73, "cost "), ("BudgetJuryLaw", 75, ">5*"), ("BudgetJuryLaw", 77, "not fans "), ("BudgetJuryLaw", 79, ">="), ("BudgetJuryLaw", 81, "purse "), ("BudgetJuryLaw", 83, ">"), ("BudgetJuryLaw", 85, " or pleased "), ("BudgetJuryLaw", 87, "min(pot,"), ("BudgetJuryLaw", 89, ")-year<0 and [year>"), ("BudgetJuryLaw", 91, " or not built "), ("BudgetJuryLaw", 93, "]"), ("BudgetJuryLaw", 110, "ward w"), ("BudgetJuryLaw", 112, " cap "), ("BudgetJuryLaw", 114, ";"), ("BudgetJuryLaw", 120, "budget "), ("BudgetJuryLaw", 122, ";\n"), ("BudgetJuryLaw", 125, "project p"), ("BudgetJuryLaw", 127, " cost "), ("BudgetJuryLaw", 129, " in w"), ("BudgetJuryLaw", 131, " grows "), ("BudgetJuryLaw", 139, "voter v"), ("BudgetJuryLaw", 141, " likes p"), ("BudgetJuryLaw", 143, " p"), ("BudgetJuryLaw", 148, "ban p"), ("BudgetJuryLaw", 150, " when ")] j ("", 0, "")
/-- the texts that the throws carry: class, entry, text -/
def am_msg : List (String × Nat × String) := [("BudgetJury", 71, "the tape is full"), ("BudgetJury", 82, "not 0 to the number of bytes of the tape"), ("BudgetJury", 109, "what is not 0 to 11"), ("BudgetJury", 140, "no such ward"), ("BudgetJury", 142, "what is not 0 to 3"), ("BudgetJury", 151, "no such project"), ("BudgetJury", 153, "what is not 0 to 7"), ("BudgetJury", 164, "no such voter"), ("BudgetJury", 169, "no such voter or no such project"), ("BudgetJury", 193, "coins are not 1 to 999"), ("BudgetJury", 203, "the budget is not 0 to 9999"), ("BudgetJury", 208, "the project is open"), ("BudgetJury", 216, "years are not 1 to 60"), ("BudgetJury", 224, "what is not 6 to 10"), ("BudgetJury", 226, "years are not 1 to 20")]
/-- what the world holds beside the law's own cells -/
def am_SF (G : am_En) (U : State) (H : Heap) : Prop := ∀ j : Nat, j < 36 → va_O "java/lang/String" (ek G j) (fun q => eS G ≤ q) U H ∧ va_OF "java/lang/String" "coder" "B" (.int 0) (ek G j) (fun q => eS G ≤ q) U H ∧ va_OF "java/lang/String" "value" "[B" (.ref (ev G j)) (ek G j) (fun q => eS G ≤ q) U H ∧ va_T .byte (ev G j) (am_nth am_tx j []).length (fun i => .int (Int32.ofInt (am_tb (j : Int) (i : Int)))) (fun q => eS G ≤ q) U H
def am_ZF (G : am_En) (U : State) (H : Heap) : Prop :=
  (va_Z "java/lang/Integer" "DigitOnes" "[B" (.ref (ev G 36)) (fun q => eS G ≤ q) U H ∧ va_T .byte (ev G 36) 100 (fun i => .int (Int32.ofInt (48 + (i : Int) % 10))) (fun q => eS G ≤ q) U H) ∧ (va_Z "java/lang/Integer" "DigitTens" "[B" (.ref (ev G 37)) (fun q => eS G ≤ q) U H ∧ va_T .byte (ev G 37) 100 (fun i => .int (Int32.ofInt (48 + (i : Int) / 10))) (fun q => eS G ≤ q) U H) ∧
  va_Z "java/lang/String" "COMPACT_STRINGS" "Z" (.int 1) (fun q => eS G ≤ q) U H ∧ va_Zq "jdk/internal/util/Preconditions" "SIOOBE_FORMATTER" "Ljava/util/function/BiFunction;" (fun q => eS G ≤ q) U H ∧
  vx_Zq Bundle.tN "UNASSIGNED_STACK" Bundle.steD (fun q => eS G ≤ q) U H ∧ vx_Zq Bundle.tN "SUPPRESSED_SENTINEL" Bundle.listD (fun q => eS G ≤ q) U H
/-- the classes of what is thrown -/
def am_en : Nat → String
  | 1 => "java/lang/IllegalStateException"
  | 2 => "java/lang/IllegalArgumentException"
  | _ => "java/lang/IndexOutOfBoundsException"
/-- a class of rows of rows -/
def am_GK (cA comp : ClassId) (ty : FieldType) (U : State) : Prop := ∃ kA kC : Class, U.vm.classes[cA]? = some kA ∧ kA.kind = .array comp (.array ty) ∧ U.vm.classes[comp]? = some kC
theorem am_GK.moved {cA comp : ClassId} {ty : FieldType} {u U : State} (hvm : u.vm.Alike U.vm) (h : am_GK cA comp ty u) : am_GK cA comp ty U := by
  obtain ⟨kA, kC, h1, h2, h3⟩ := h
  obtain ⟨k1, e1, f1⟩ := hvm.2.2 _ _ h1
  obtain ⟨k3, e3, -⟩ := hvm.2.2 _ _ h3
  exact ⟨k1, k3, e1, by rw [f1]; exact h2, e3⟩
/-- rows of rows can be made -/
def am_AO (ty : FieldType) (U : State) : Prop := (Cond.arrayOver (.array ty)).before #[] U = true
/-- what is so of the classes -/
def am_TF (G : am_En) (U : State) : Prop :=
  va_K (eD G) vwCl [(eI G, .int), (eY G, .byte), (eJ G, .long), (eZ G, .boolean), (eQ G, .array .int), (eR G, .array .boolean)] U ∧ (∀ w ∈ lw_tbl, am_isN w = true → va_Nw w U) ∧ (∀ j : Nat, j < 36 → vk_R (am_own j).1 (am_own j).2.1 (am_own j).2.2 (ek G j) U) ∧
  (∀ q ∈ am_msg, ∃ a, vk_R q.1 q.2.1 q.2.2 a U) ∧ (∀ x k : Nat, 1 ≤ x → x ≤ 3 → 1 ≤ k → k ≤ 1 → x ≠ k → va_Nc (am_en x) (am_en k) U) ∧ am_GK (eQ G) (eI G) .int U ∧ am_GK (eR G) (eZ G) .boolean U ∧ am_AO .int U ∧ am_AO .boolean U
def am_WK (G : am_En) (U : State) (H : Heap) : Prop := am_TF G U ∧ am_SF G U H ∧ am_ZF G U H ∧ va_X (eb G) (eL G) (ex G) U H ∧ eb G < eS G ∧ eS G ≤ H.size ∧ eL G ≤ 260
theorem am_WK.kept {G : am_En} {U : State} {H H1 : Heap} (h : am_WK G U H) (hz : H.size ≤ H1.size) (hq : ∀ q : Nat, q < H.size → ¬ eS G ≤ q → H1[q]? = H[q]?) : am_WK G U H1 := by
  obtain ⟨h1, h2, h3, h4, h5, h6, h7⟩ := h
  refine ⟨h1, fun j hj => ?_, ?_, h4.kept (hq _ (by omega) (by omega)), h5, Nat.le_trans h6 hz, h7⟩
  · obtain ⟨a1, a2, a3, a4⟩ := h2 j hj
    exact ⟨a1.kept hq, a2.kept hq, a3.kept hq, a4.kept hq⟩
  · obtain ⟨⟨a1, a1'⟩, ⟨a2, a2'⟩, a3, a4, a5, a6⟩ := h3
    exact ⟨⟨a1.kept hq, a1'.kept hq⟩, ⟨a2.kept hq, a2'.kept hq⟩, a3.kept hq, a4.kept hq, a5.kept hq, a6.kept hq⟩
theorem am_isN_warm {w : Cond} {s U : State} (hW : s.WarmedH U.vm) (hw : am_isN w = true) (h : va_Nw w s) : va_Nw w U := by
  cases w <;> first | exact va_Nw.warmF hW h | exact va_Nw.warmM hW h | exact va_Nw.warmC hW h | exact va_Nw.warmD hW h | cases hw
theorem am_TF.warm {G : am_En} {s U : State} (hW : s.WarmedH U.vm) (h : am_TF G s) : am_TF G U := by
  obtain ⟨h1, h2, h3, h4, h5, h6, h7, h8, h9⟩ := h
  refine ⟨va_K.moved hW.alike h1, fun w hw hn => am_isN_warm hW hn (h2 w hw hn), fun j hj => vk_R.warm hW (h3 j hj), fun q hq => ?_, fun x k a1 a2 a3 a4 a5 => va_Nc.moved hW.alike (h5 x k a1 a2 a3 a4 a5), h6.moved hW.alike, h7.moved hW.alike, over_moved hW.alike h8, over_moved hW.alike h9⟩
  obtain ⟨a, ha⟩ := h4 q hq
  exact ⟨a, vk_R.warm hW ha⟩
theorem am_WK.warm {G : am_En} {s U : State} {H : Heap} (hW : s.WarmedH U.vm) (h : am_WK G s H) : am_WK G U H := by
  obtain ⟨h1, h2, h3, h4, h5⟩ := h
  refine ⟨h1.warm hW, fun j hj => ?_, ?_, va_X.moved hW.alike h4, h5⟩
  · obtain ⟨a1, a2, a3, a4⟩ := h2 j hj
    exact ⟨va_O.moved hW.alike a1, va_OF.moved hW.alike a2, va_OF.moved hW.alike a3, va_T.moved hW.alike a4⟩
  · obtain ⟨⟨a1, a1'⟩, ⟨a2, a2'⟩, a3, a4, a5, a6⟩ := h3
    exact ⟨⟨va_Z.moved hW.alike a1, va_T.moved hW.alike a1'⟩, ⟨va_Z.moved hW.alike a2, va_T.moved hW.alike a2'⟩, va_Z.moved hW.alike a3, va_Zq.moved hW.alike a4, vx_Zq.moved hW.alike a5, vx_Zq.moved hW.alike a6⟩
