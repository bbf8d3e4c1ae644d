/-! ===== the abstract machine beside the real one: values, locals, heaps ===== -/
/-- where the law's own cells begin, the script's cell, the row of words; texts' cells and their bytes' cells; classes; array classes; the script -/
abbrev am_En : Type := (Nat × Nat × Nat) × ((Nat → Nat) × (Nat → Nat)) × va_G × (ClassId × ClassId × ClassId) × (Nat × (Nat → Int32))
def eB (G : am_En) : Nat := G.1.1
def eb (G : am_En) : Nat := G.1.2.1
def ew (G : am_En) : Nat := G.1.2.2
def ek (G : am_En) (j : Nat) : Nat := G.2.1.1 j
def ev (G : am_En) (j : Nat) : Nat := G.2.1.2 j
def eD (G : am_En) : va_G := G.2.2.1
def eI (G : am_En) : ClassId := G.2.2.2.1.1
def eY (G : am_En) : ClassId := G.2.2.2.1.2.1
def eJ (G : am_En) : ClassId := G.2.2.2.1.2.2
def eL (G : am_En) : Nat := G.2.2.2.2.1
def ex (G : am_En) (j : Nat) : Int32 := G.2.2.2.2.2 j
def am_RV (G : am_En) (v : AV) (V : Value) : Prop := match v.1 with
  | 0 => ∃ x : Int32, V = .int x ∧ v.2 = x.toInt
  | 1 => ∃ x : Int64, V = .long x ∧ v.2 = x.toInt
  | 2 => (v.2 = -1 ∧ V = .null) ∨ (0 ≤ v.2 ∧ V = .ref (eB G + v.2.toNat))
  | 3 => ∃ x : UInt64, V = .double x ∧ v.2 = (x.toNat : Int)
  | 4 => V = .ref (eb G)
  | 5 => 0 ≤ v.2 ∧ v.2 < 25 ∧ V = .ref (ek G v.2.toNat)
  | 6 => V = .ref (ew G)
  | 7 => 0 ≤ v.2 ∧ v.2 < 25 ∧ V = .ref (ev G v.2.toNat)
  | 10 => ∃ q, V = .ref q
  | 11 => V = .null ∨ ∃ q, V = .ref q
  | _ => False
/-- what is listed stands in the locals; a long or double only while its second half does -/
def am_hold (ls : List AV) (i : Nat) : Prop := (am_get ls i).1 < 8 ∨ (am_get ls i).1 = 11
def am_RL (G : am_En) (n : Nat) (ls : List AV) (arr : Array Slot) : Prop :=
  arr.size = n ∧ ls.length = n ∧ lv_wf arr ∧ ∀ i, am_hold ls i → (((am_get ls i).1 = 1 ∨ (am_get ls i).1 = 3) → (am_get ls (i + 1)).1 = 8) → ∃ V, arr[i]? = some (.val V) ∧ am_RV G (am_get ls i) V
def am_CO (G : am_En) (h : AH) (a : Int) (H : Heap) : Prop := match am_t h a with
  | 20 => ∃ (n : Nat) (f : Nat → Int32), H[eB G + a.toNat]? = some (arrV (eI G) n (fun j => .int (f j))) ∧ am_l h a = (n : Int) ∧ n ≤ 4096 ∧ ∀ j : Nat, j < n → am_m h a (j : Int) = (f j).toInt
  | 21 => ∃ (n : Nat) (f : Nat → Int32), H[eB G + a.toNat]? = some (arrV (eY G) n (fun j => .int (f j))) ∧ am_l h a = (n : Int) ∧ n ≤ 4096 ∧ ∀ j : Nat, j < n → am_m h a (j : Int) = (f j).toInt
  | 22 => ∃ (n : Nat) (f : Nat → Int64), H[eB G + a.toNat]? = some (arrV (eJ G) n (fun j => .long (f j))) ∧ am_l h a = (n : Int) ∧ n ≤ 4096 ∧ ∀ j : Nat, j < n → am_m h a (j : Int) = (f j).toInt
  | t => ∃ (q : vw_C) (V : Nat → Value), vwCl[t - 1]? = some q ∧ t_OB (eB G + a.toNat) ((eD G).1 (t - 1)) q.2.2 ((eD G).2 (t - 1)) H V ∧ ∀ k : Nat, k < q.2.2 → am_RV G ((am_ft t).getD k 0, am_m h a (k : Int)) (V k)
def am_HM (G : am_En) (h : AH) (H : Heap) : Prop :=
  (0 ≤ am_n h ∧ H.size = eB G + (am_n h).toNat) ∧ (am_sl h = (eL G : Int) ∧ ∀ j : Nat, j < eL G → am_sx h (j : Int) = (ex G j).toInt) ∧ ∀ a : Int, am_t h a ≠ 0 → (0 ≤ a ∧ a < am_n h) ∧ am_CO G h a H
def am_W : List Cond := lw_tbl.filter goodWord
def am_isN : Cond → Bool
  | .fieldLinkNest .. => true
  | .methodLinkNest .. => true
  | .castable .. => true
  | .declares .. => true
  | _ => false
def am_own (j : Nat) : String × Nat × String := am_nth [("BudgetJury$Tokens", 31, "ward cap project cost in grows voter likes budget ban when year pot purse fans built pleased not and or min max "), ("BudgetJury$Tokens", 91, "()[];,+-*/<>="), ("BudgetJuryModel", 102, "()[];,+-*/<>="), ("BudgetJuryModel", 370, "ward"), ("BudgetJuryModel", 371, "cap"), ("BudgetJuryModel", 372, "project"), ("BudgetJuryModel", 374, "cost"), ("BudgetJuryModel", 375, "in"), ("BudgetJuryModel", 377, "grows"), ("BudgetJuryModel", 378, "voter"), ("BudgetJuryModel", 380, "likes"), ("BudgetJuryModel", 381, "budget"), ("BudgetJuryModel", 382, "ban"), ("BudgetJuryModel", 383, "when"), ("BudgetJuryModel", 385, "year"), ("BudgetJuryModel", 386, "pot"), ("BudgetJuryModel", 388, "purse"), ("BudgetJuryModel", 389, "fans"), ("BudgetJuryModel", 390, "built"), ("BudgetJuryModel", 391, "pleased"), ("BudgetJuryModel", 392, "not"), ("BudgetJuryModel", 394, "and"), ("BudgetJuryModel", 396, "or"), ("BudgetJuryModel", 398, "min"), ("BudgetJuryModel", 399, "max")] j ("", 0, "")
/-- the texts that the throws carry: class, entry, text -/
def am_msg : List (String × Nat × String) := [("BudgetJury", 71, "the tape is full"), ("BudgetJury", 82, "not 0 to the number of bytes of the tape"), ("BudgetJury", 109, "what is not 0 to 11"), ("BudgetJury", 140, "no such ward"), ("BudgetJury", 142, "what is not 0 to 3"), ("BudgetJury", 151, "no such project"), ("BudgetJury", 153, "what is not 0 to 7"), ("BudgetJury", 164, "no such voter"), ("BudgetJury", 169, "no such voter or no such project"), ("BudgetJury", 193, "coins are not 1 to 999"), ("BudgetJury", 203, "the budget is not 0 to 9999"), ("BudgetJury", 208, "the project is open"), ("BudgetJury", 216, "years are not 1 to 60"), ("BudgetJury", 224, "what is not 6 to 10"), ("BudgetJury", 226, "years are not 1 to 20")]
/-- what the world holds beside the law's own cells -/
def am_SF (G : am_En) (U : State) (H : Heap) : Prop := ∀ j : Nat, j < 25 → va_O "java/lang/String" (ek G j) (fun q => eB G ≤ q) U H ∧ va_OF "java/lang/String" "coder" "B" (.int 0) (ek G j) (fun q => eB G ≤ q) U H ∧ va_OF "java/lang/String" "value" "[B" (.ref (ev G j)) (ek G j) (fun q => eB G ≤ q) U H ∧ va_T .byte (ev G j) (am_nth am_tx j []).length (fun i => .int (Int32.ofInt (am_tb (j : Int) (i : Int)))) (fun q => eB G ≤ q) U H
def am_ZF (G : am_En) (U : State) (H : Heap) : Prop :=
  va_Z "BudgetJuryModel" "WORDS" "[Ljava/lang/String;" (.ref (ew G)) (fun q => eB G ≤ q) U H ∧ va_T (.object "java/lang/String") (ew G) 22 (fun j => .ref (ek G (3 + j))) (fun q => eB G ≤ q) U H ∧
  va_Z "java/lang/String" "COMPACT_STRINGS" "Z" (.int 1) (fun q => eB G ≤ q) U H ∧ va_Zq "jdk/internal/util/Preconditions" "SIOOBE_FORMATTER" "Ljava/util/function/BiFunction;" (fun q => eB G ≤ q) U H ∧
  vx_Zq Bundle.tN "UNASSIGNED_STACK" Bundle.steD (fun q => eB G ≤ q) U H ∧ vx_Zq Bundle.tN "SUPPRESSED_SENTINEL" Bundle.listD (fun q => eB G ≤ q) U H
/-- the classes of what is thrown -/
def am_en : Nat → String
  | 1 => "java/lang/IllegalStateException"
  | 2 => "java/lang/IllegalArgumentException"
  | _ => "java/lang/IndexOutOfBoundsException"
/-- what is so of the classes -/
def am_TF (G : am_En) (U : State) : Prop :=
  va_K (eD G) vwCl [(eI G, .int), (eY G, .byte), (eJ G, .long)] U ∧ (∀ w ∈ lw_tbl, am_isN w = true → va_Nw w U) ∧ (∀ j : Nat, j < 25 → vk_R (am_own j).1 (am_own j).2.1 (am_own j).2.2 (ek G j) U) ∧
  (∀ q ∈ am_msg, ∃ a, vk_R q.1 q.2.1 q.2.2 a U) ∧ ∀ x k : Nat, 1 ≤ x → x ≤ 3 → 1 ≤ k → k ≤ 3 → x ≠ k → va_Nc (am_en x) (am_en k) U
def am_WK (G : am_En) (U : State) (H : Heap) : Prop := am_TF G U ∧ am_SF G U H ∧ am_ZF G U H ∧ va_X (eb G) (eL G) (ex G) U H ∧ eb G < eB G ∧ eB G ≤ H.size ∧ eL G ≤ 3072
theorem am_WK.kept {G : am_En} {U : State} {H H1 : Heap} (h : am_WK G U H) (hz : H.size ≤ H1.size) (hq : ∀ q : Nat, q < H.size → ¬ eB G ≤ q → H1[q]? = H[q]?) : am_WK G U H1 := by
  obtain ⟨h1, h2, h3, h4, h5, h6, h7⟩ := h
  refine ⟨h1, fun j hj => ?_, ?_, h4.kept (hq _ (by omega) (by omega)), h5, Nat.le_trans h6 hz, h7⟩
  · obtain ⟨a1, a2, a3, a4⟩ := h2 j hj
    exact ⟨a1.kept hq, a2.kept hq, a3.kept hq, a4.kept hq⟩
  · obtain ⟨a1, a2, a3, a4, a5, a6⟩ := h3
    exact ⟨a1.kept hq, a2.kept hq, a3.kept hq, a4.kept hq, a5.kept hq, a6.kept hq⟩
theorem am_isN_warm {w : Cond} {s U : State} (hW : s.WarmedH U.vm) (hw : am_isN w = true) (h : va_Nw w s) : va_Nw w U := by
  cases w <;> first | exact va_Nw.warmF hW h | exact va_Nw.warmM hW h | exact va_Nw.warmC hW h | exact va_Nw.warmD hW h | cases hw
theorem am_TF.warm {G : am_En} {s U : State} (hW : s.WarmedH U.vm) (h : am_TF G s) : am_TF G U := by
  obtain ⟨h1, h2, h3, h4, h5⟩ := h
  refine ⟨va_K.moved hW.alike h1, fun w hw hn => am_isN_warm hW hn (h2 w hw hn), fun j hj => vk_R.warm hW (h3 j hj), fun q hq => ?_, fun x k a1 a2 a3 a4 a5 => va_Nc.moved hW.alike (h5 x k a1 a2 a3 a4 a5)⟩
  obtain ⟨a, ha⟩ := h4 q hq
  exact ⟨a, vk_R.warm hW ha⟩
theorem am_WK.warm {G : am_En} {s U : State} {H : Heap} (hW : s.WarmedH U.vm) (h : am_WK G s H) : am_WK G U H := by
  obtain ⟨h1, h2, h3, h4, h5⟩ := h
  refine ⟨h1.warm hW, fun j hj => ?_, ?_, va_X.moved hW.alike h4, h5⟩
  · obtain ⟨a1, a2, a3, a4⟩ := h2 j hj
    exact ⟨va_O.moved hW.alike a1, va_OF.moved hW.alike a2, va_OF.moved hW.alike a3, va_T.moved hW.alike a4⟩
  · obtain ⟨a1, a2, a3, a4, a5, a6⟩ := h3
    exact ⟨va_Z.moved hW.alike a1, va_T.moved hW.alike a2, va_Z.moved hW.alike a3, va_Zq.moved hW.alike a4, vx_Zq.moved hW.alike a5, vx_Zq.moved hW.alike a6⟩
