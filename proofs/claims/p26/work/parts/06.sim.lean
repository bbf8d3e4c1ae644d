/-! ===== one instruction of the abstract machine is one of the real machine ===== -/
def am_mn (m : Nat) : MethodName := (am_inf m).1
def am_cd (m : Nat) : ByteArray := (am_inf m).2.1
def am_re (m : Nat) : Option FieldType := (am_inf m).2.2.2.1
def am_hh (m : Nat) : List (Nat × Nat × Nat × Nat) := (am_inf m).2.2.2.2.1
def am_wi (m : Nat) : Nat := (am_inf m).2.2.2.2.2.1
def am_RS (G : am_En) : List AV → List Value → Prop
  | [], [] => True
  | v :: r, V :: R => am_RV G v V ∧ am_RS G r R
  | _, _ => False
theorem am_RS_inv {G : am_En} {v : AV} {r : List AV} {st : List Value} (h : am_RS G (v :: r) st) : ∃ (V : Value) (R : List Value), st = V :: R ∧ am_RV G v V ∧ am_RS G r R := by
  cases st with
  | nil => exact h.elim
  | cons V R => exact ⟨V, R, rfl, h.1, h.2⟩
/-- the frame that runs method m: the machine, the code, the words, the world, the room -/
def am_Cx (G : am_En) (l : Launch) (d m : Nat) (p : Program) (R : Room) (s : State) (mth : MethodId) (args : Array Value) (meth : Method) (cd : Code) : Prop :=
  p.tables.exec = Jvm.exec ∧ cd.code = am_cd m ∧ cd.maxLocals = am_ml m ∧ s.vm.findClass (am_mn m).cls = some mth.cls ∧ (∀ w ∈ am_W, w.before args s = true) ∧ am_WK G s s.heap ∧
  (d + 8 ≤ R.frames ∧ 40 * d + 200 ≤ R.locals ∧ (am_cap m).1 = R.cells ∧ (am_cap m).2 = R.slots) ∧ meth.locks = false ∧ l.stackTraces = false ∧ ((am_mn m).name = "<init>" → meth.name = "<init>")
def am_Gl (G : am_En) (m : Nat) (p : Program) (l : Launch) (e : Env) (R : Room) (s : State) (mth : MethodId) (args : Array Value) (below : List Frame) (meth : Method) (cd : Code) (Q : State → Prop) (c : AC) : Prop :=
  ∀ (H : Heap) (locs : List Loc) (arr : Array Slot) (st : List Value), am_HM G c.2.2.2.1 H → va_S (fun q => eS G ≤ q) s.heap H locs → am_RL G (am_ml m) c.2.1 arr → am_RS G c.2.2.1 st → c.2.2.2.2.1 ≤ R.cells → c.2.2.2.2.2 ≤ R.slots →
    W p l e R s mth args below meth cd H locs c.2.2.2.2.1 c.2.2.2.2.2 Q (F0 mth c.1 arr st)
section SIM
variable {G : am_En} {l : Launch} {d m : Nat} {p : Program} {e : Env} {R : Room} {s : State} {mth : MethodId} {args : Array Value} {below : List Frame} {meth : Method} {cd : Code} {Q : State → Prop} {K : AK} {X : AX} {Z : AC → Prop} {hs : List (Nat × Nat × Nat × Nat)}
variable {pc : Nat} {ls st : List AV} {h : AH} {c s0 : Nat}
theorem am_pI_inv {f : Int → List AV → ASh} (w : am_stp X Z d hs K (am_pI st f)) : ∃ a r, st = (0, a) :: r ∧ am_stp X Z d hs K (f a r) := by
  cases st with
  | nil => exact w.elim
  | cons v r =>
    obtain ⟨t, a⟩ := v
    match t, w with
    | 0, w => exact ⟨a, r, rfl, w⟩
    | n + 1, w => exact w.elim
theorem am_pL_inv {f : Int → List AV → ASh} (w : am_stp X Z d hs K (am_pL st f)) : ∃ a r, st = (1, a) :: r ∧ am_stp X Z d hs K (f a r) := by
  cases st with
  | nil => exact w.elim
  | cons v r =>
    obtain ⟨t, a⟩ := v
    match t, w with
    | 0, w => exact w.elim
    | 1, w => exact ⟨a, r, rfl, w⟩
    | n + 2, w => exact w.elim
theorem am_pR_inv {f : Int → List AV → ASh} (w : am_stp X Z d hs K (am_pR st f)) : ∃ a r, st = (2, a) :: r ∧ am_stp X Z d hs K (f a r) := by
  cases st with
  | nil => exact w.elim
  | cons v r =>
    obtain ⟨t, a⟩ := v
    match t, w with
    | 0, w => exact w.elim
    | 1, w => exact w.elim
    | 2, w => exact ⟨a, r, rfl, w⟩
    | n + 3, w => exact w.elim
theorem am_pD_inv {f : Int → List AV → ASh} (w : am_stp X Z d hs K (am_pD st f)) : ∃ a r, st = (3, a) :: r ∧ am_stp X Z d hs K (f a r) := by
  cases st with
  | nil => exact w.elim
  | cons v r =>
    obtain ⟨t, a⟩ := v
    match t, w with
    | 0, w => exact w.elim
    | 1, w => exact w.elim
    | 2, w => exact w.elim
    | 3, w => exact ⟨a, r, rfl, w⟩
    | n + 4, w => exact w.elim
theorem am_p1_inv {f : AV → List AV → ASh} (w : am_stp X Z d hs K (am_p1 st f)) : ∃ v r, st = v :: r ∧ (v.1 = 0 ∨ v.1 = 2) ∧ am_stp X Z d hs K (f v r) := by
  cases st with
  | nil => exact w.elim
  | cons v r =>
    obtain ⟨t, a⟩ := v
    match t, w with
    | 0, w => exact ⟨(0, a), r, rfl, Or.inl rfl, w⟩
    | 1, w => exact w.elim
    | 2, w => exact ⟨(2, a), r, rfl, Or.inr rfl, w⟩
    | n + 3, w => exact w.elim
theorem am_RV_cat1 {v : AV} {V : Value} (h : am_RV G v V) (hv : v.1 = 0 ∨ v.1 = 2) : V.category = 1 := by
  obtain ⟨t, a⟩ := v
  rcases hv with rfl | rfl
  · obtain ⟨x, rfl, -⟩ := h
    rfl
  · rcases h with ⟨-, rfl⟩ | ⟨-, rfl⟩ <;> rfl
theorem am_get_lt : ∀ {ls : List AV} {i : Nat}, am_hold ls i → i < ls.length
  | [], i, h => by rcases h with h | h <;> simp [am_get] at h
  | _ :: _, 0, _ => by simp
  | _ :: r, i + 1, h => by
    have := am_get_lt (ls := r) (i := i) h
    simp
    omega
theorem am_ld_inv {v : AV} {want : Nat} {f : AV → ASh} (w : am_stp X Z d hs K (am_ld v want f)) : am_stp X Z d hs K (f v) ∧ ((v.1 = 0 ∧ want = 0) ∨ (v.1 = 1 ∧ want = 1) ∨ (v.1 = 3 ∧ want = 3) ∨ ((v.1 = 2 ∨ v.1 = 4 ∨ v.1 = 5 ∨ v.1 = 7 ∨ v.1 = 11) ∧ want = 2)) := by
  obtain ⟨t, a⟩ := v
  match t, w with
  | 0, w =>
    match want, w with
    | 0, w => exact ⟨w, Or.inl ⟨rfl, rfl⟩⟩
    | n + 1, w => exact w.elim
  | 1, w =>
    match want, w with
    | 0, w => exact w.elim
    | 1, w => exact ⟨w, Or.inr (Or.inl ⟨rfl, rfl⟩)⟩
    | n + 2, w => exact w.elim
  | 2, w =>
    match want, w with
    | 0, w => exact w.elim
    | 1, w => exact w.elim
    | 2, w => exact ⟨w, Or.inr (Or.inr (Or.inr ⟨Or.inl rfl, rfl⟩))⟩
    | n + 3, w => exact w.elim
  | 3, w =>
    match want, w with
    | 0, w => exact w.elim
    | 1, w => exact w.elim
    | 2, w => exact w.elim
    | 3, w => exact ⟨w, Or.inr (Or.inr (Or.inl ⟨rfl, rfl⟩))⟩
    | n + 4, w => exact w.elim
  | 4, w =>
    match want, w with
    | 0, w => exact w.elim
    | 1, w => exact w.elim
    | 2, w => exact ⟨w, Or.inr (Or.inr (Or.inr ⟨Or.inr (Or.inl rfl), rfl⟩))⟩
    | n + 3, w => exact w.elim
  | 5, w =>
    match want, w with
    | 0, w => exact w.elim
    | 1, w => exact w.elim
    | 2, w => exact ⟨w, Or.inr (Or.inr (Or.inr ⟨Or.inr (Or.inr (Or.inl rfl)), rfl⟩))⟩
    | n + 3, w => exact w.elim
  | 6, w => exact w.elim
  | 7, w =>
    match want, w with
    | 0, w => exact w.elim
    | 1, w => exact w.elim
    | 2, w => exact ⟨w, Or.inr (Or.inr (Or.inr ⟨Or.inr (Or.inr (Or.inr (Or.inl rfl))), rfl⟩))⟩
    | n + 3, w => exact w.elim
  | 8, w => exact w.elim
  | 9, w => exact w.elim
  | 10, w => exact w.elim
  | 11, w =>
    match want, w with
    | 0, w => exact w.elim
    | 1, w => exact w.elim
    | 2, w => exact ⟨w, Or.inr (Or.inr (Or.inr ⟨Or.inr (Or.inr (Or.inr (Or.inr rfl))), rfl⟩))⟩
    | n + 3, w => exact w.elim
  | n + 12, w => exact w.elim
theorem am_ld2_inv {v v2 : AV} {want : Nat} {f : AV → ASh} (w : am_stp X Z d hs K (am_ld2 v v2 want f)) : v2.1 = 8 ∧ am_stp X Z d hs K (am_ld v want f) := by
  obtain ⟨t, a⟩ := v2
  by_cases ht : t = 8
  · subst ht
    exact ⟨rfl, w⟩
  · exfalso
    unfold am_ld2 at w
    split at w
    · rename_i hh
      exact ht (by cases hh; rfl)
    · exact w.elim
/-- reading a local -/
theorem am_rd {arr : Array Slot} {n i : Nat} (hL : am_RL G n ls arr) (hv : (am_get ls i).1 < 8 ∨ (am_get ls i).1 = 11) (h2 : ((am_get ls i).1 = 1 ∨ (am_get ls i).1 = 3) → (am_get ls (i + 1)).1 = 8) : ∃ V, arr[i]? = some (.val V) ∧ am_RV G (am_get ls i) V := hL.2.2.2 i hv h2
theorem am_get_set : ∀ {ls : List AV} {i j : Nat} {v : AV}, i < ls.length → am_get (am_set ls i v) j = if j = i then v else am_get ls j
  | [], i, j, v, h => by simp at h
  | a :: r, 0, 0, v, h => by simp [am_set, am_get]
  | a :: r, 0, j + 1, v, h => by simp [am_set, am_get]
  | a :: r, i + 1, 0, v, h => by simp [am_set, am_get]
  | a :: r, i + 1, j + 1, v, h => by
    simp only [am_set, am_get]
    rw [am_get_set (by simpa using h)]
    simp
theorem am_len_set : ∀ {ls : List AV} {i : Nat} {v : AV}, (am_set ls i v).length = ls.length
  | [], _, _ => rfl
  | _ :: _, 0, _ => rfl
  | _ :: r, i + 1, v => by simp [am_set, am_len_set (ls := r)]
theorem am_get_out : ∀ {ls : List AV} {i : Nat}, ls.length ≤ i → am_get ls i = (9, 0)
  | [], _, _ => rfl
  | _ :: _, 0, h => by simp at h
  | _ :: r, i + 1, h => by
    simp only [am_get]
    exact am_get_out (by simpa using h)
/-- all that the real locals hold, as the kit lists it -/
def am_all (arr : Array Slot) : List (Nat × Value) := (List.range arr.size).filterMap fun i => match (arr[i]? : Option Slot) with
  | some (Slot.val V) => some (i, V)
  | _ => none
theorem am_all_mem {arr : Array Slot} {q : Nat × Value} : q ∈ am_all arr ↔ arr[q.1]? = some (.val q.2) := by
  unfold am_all
  constructor
  · intro hq
    obtain ⟨i, hi, he⟩ := List.mem_filterMap.mp hq
    split at he
    · rename_i V hV
      cases he
      exact hV
    · cases he
  · intro hq
    refine List.mem_filterMap.mpr ⟨q.1, List.mem_range.mpr (Array.getElem?_eq_some_iff.mp hq).1, ?_⟩
    rw [hq]
theorem am_all_has {arr : Array Slot} {n : Nat} (hz : arr.size = n) (hw : lv_wf arr) : lv_has arr n (am_all arr) := ⟨hz, hw, fun _ hq => am_all_mem.mp hq⟩
theorem am_cat2 {v : AV} {V : Value} (h : am_RV G v V) (hc : V.category = 2) : v.1 = 1 ∨ v.1 = 3 := by
  obtain ⟨t, a⟩ := v
  match t, h with
  | 0, h => obtain ⟨x, rfl, -⟩ := h; cases hc
  | 1, _ => exact Or.inl rfl
  | 2, h => rcases h with ⟨-, rfl⟩ | ⟨-, rfl⟩ <;> cases hc
  | 3, _ => exact Or.inr rfl
  | 4, h => have h : V = .ref (eb G) := h; subst h; cases hc
  | 5, h => obtain ⟨-, -, rfl⟩ := h; cases hc
  | 6, h => exact h.elim
  | 7, h => obtain ⟨-, -, rfl⟩ := h; cases hc
  | 8, h => exact h.elim
  | 9, h => exact h.elim
  | 10, h => obtain ⟨q, rfl⟩ := h; cases hc
  | 11, h => rcases h with rfl | ⟨q, rfl⟩ <;> cases hc
  | n + 12, h => exact h.elim
/-- writing a local of one slot -/
theorem am_wrg {arr arr' : Array Slot} {n i : Nat} {v : AV} {V : Value} (hL : am_RL G n ls arr) (hi : i < n) (hV : (v.1 < 8 ∨ v.1 = 11) → am_RV G v V) (h8 : ¬ v.1 = 8)
    (ha : lv_has arr' n ((i, V) :: (am_all arr).filter (fun q => !(q.1 == i) && !(q.1 + 1 == i && q.2.category == 2)))) : am_RL G n (am_st1 ls i v) arr' := by
  obtain ⟨h1, h2, h3, h4⟩ := hL
  refine ⟨ha.1, by unfold am_st1; rw [am_len_set]; exact h2, ha.2.1, fun j hj hj2 => ?_⟩
  unfold am_hold am_st1 at hj
  unfold am_st1 at hj2 ⊢
  rw [am_get_set (by omega)] at hj hj2 ⊢
  by_cases hji : j = i
  · rw [if_pos hji]
    subst hji
    rw [if_pos rfl] at hj
    exact ⟨V, ha.2.2 (j, V) List.mem_cons_self, hV hj⟩
  · rw [if_neg hji] at hj hj2 ⊢
    rw [am_get_set (by omega)] at hj2
    obtain ⟨V', e1, e2⟩ := h4 j hj (fun hc => by
      by_cases hj1 : j + 1 = i
      · exfalso
        have := hj2 hc
        rw [if_pos hj1] at this
        exact h8 this
      · have := hj2 hc
        rw [if_neg hj1] at this
        exact this)
    refine ⟨V', ha.2.2 (j, V') (List.mem_cons_of_mem _ (List.mem_filter.mpr ⟨am_all_mem.mpr e1, ?_⟩)), e2⟩
    simp only [Bool.and_eq_true, Bool.not_eq_true', beq_eq_false_iff_ne, ne_eq, Bool.and_eq_false_iff]
    refine ⟨hji, ?_⟩
    by_cases hj1 : j + 1 = i
    · right
      intro hc
      have hcat : (am_get ls j).1 = 1 ∨ (am_get ls j).1 = 3 := am_cat2 e2 hc
      have := hj2 hcat
      rw [if_pos hj1] at this
      exact absurd this h8
    · left
      exact hj1
theorem am_wr1 {arr arr' : Array Slot} {n i : Nat} {v : AV} {V : Value} (hL : am_RL G n ls arr) (hi : i < n) (hV : am_RV G v V) (hv1 : ¬ v.1 = 1) (hv3 : ¬ v.1 = 3)
    (ha : lv_has arr' n ((i, V) :: (am_all arr).filter (fun q => !(q.1 == i) && !(q.1 + 1 == i && q.2.category == 2)))) : am_RL G n (am_st1 ls i v) arr' :=
  am_wrg hL hi (fun _ => hV) (fun h => by unfold am_RV at hV; rw [h] at hV; exact hV) ha
theorem am_wr0 {arr arr' : Array Slot} {n i : Nat} {V : Value} (hL : am_RL G n ls arr) (hi : i < n) 
    (ha : lv_has arr' n ((i, V) :: (am_all arr).filter (fun q => !(q.1 == i) && !(q.1 + 1 == i && q.2.category == 2)))) : am_RL G n (am_st1 ls i (9, 0)) arr' :=
  am_wrg hL hi (fun h => by simp at h) (by simp) ha
theorem am_pA_inv {f : Int → List AV → ASh} {g : List AV → ASh} (w : am_stp X Z d hs K (am_pA st f g)) : (∃ a r, st = (2, a) :: r ∧ am_stp X Z d hs K (f a r)) ∨ ∃ z r, st = (10, z) :: r ∧ am_stp X Z d hs K (g r) := by
  cases st with
  | nil => exact w.elim
  | cons v r =>
    obtain ⟨t, a⟩ := v
    by_cases h2 : t = 2
    · subst h2
      exact Or.inl ⟨a, r, rfl, w⟩
    · by_cases h10 : t = 10
      · subst h10
        exact Or.inr ⟨a, r, rfl, w⟩
      · exfalso
        unfold am_pA at w
        split at w
        · rename_i hh
          cases hh
          exact h2 rfl
        · rename_i hh
          cases hh
          exact h10 rfl
        · exact w.elim
/-- writing a local of two slots -/
theorem am_wr2 {arr arr' : Array Slot} {n i : Nat} {v : AV} {V : Value} (hL : am_RL G n ls arr) (hi : i + 1 < n) (hV : am_RV G v V)
    (ha : lv_has arr' n ((i, V) :: (am_all arr).filter (fun q => !(q.1 == i) && (!(q.1 == i + 1) && !(q.1 + 1 == i && q.2.category == 2))))) : am_RL G n (am_st2 ls i v) arr' := by
  obtain ⟨h1, h2, h3, h4⟩ := hL
  refine ⟨ha.1, by unfold am_st2; rw [am_len_set, am_len_set]; exact h2, ha.2.1, fun j hj hj2 => ?_⟩
  unfold am_hold at hj
  have hg : ∀ j, am_get (am_st2 ls i v) j = if j = i + 1 then (8, 0) else if j = i then v else am_get ls j := by
    intro j
    unfold am_st2
    rw [am_get_set (by rw [am_len_set]; omega), am_get_set (by omega)]
  rw [hg] at hj hj2 ⊢
  by_cases hj1 : j = i + 1
  · rw [if_pos hj1] at hj
    exact absurd hj (by decide)
  · rw [if_neg hj1] at hj hj2 ⊢
    by_cases hji : j = i
    · rw [if_pos hji]
      subst hji
      exact ⟨V, ha.2.2 (j, V) List.mem_cons_self, hV⟩
    · rw [if_neg hji] at hj hj2 ⊢
      rw [hg, if_neg (show ¬ j + 1 = i + 1 by omega)] at hj2
      obtain ⟨V', e1, e2⟩ := h4 j hj (fun hc => by
        by_cases hj3 : j + 1 = i
        · exfalso
          have := hj2 hc
          rw [if_pos hj3] at this
          have hV' := hV
          unfold am_RV at hV'
          rw [this] at hV'
          exact hV'
        · have := hj2 hc
          rw [if_neg hj3] at this
          exact this)
      refine ⟨V', ha.2.2 (j, V') (List.mem_cons_of_mem _ (List.mem_filter.mpr ⟨am_all_mem.mpr e1, ?_⟩)), e2⟩
      simp only [Bool.and_eq_true, Bool.not_eq_true', beq_eq_false_iff_ne, ne_eq, Bool.and_eq_false_iff]
      refine ⟨hji, hj1, ?_⟩
      by_cases hj3 : j + 1 = i
      · right
        intro hc
        have hcat : (am_get ls j).1 = 1 ∨ (am_get ls j).1 = 3 := am_cat2 e2 hc
        have := hj2 hcat
        rw [if_pos hj3] at this
        have hV' := hV
        unfold am_RV at hV'
        rw [this] at hV'
        exact hV'
      · left
        exact hj3
end SIM
