/-! ===== all lines ===== -/
def lbs : List LnT → List Int
  | [] => []
  | l :: r => l.1 ++ lbs r
def lts : List LnT → List (Int × Int)
  | [] => []
  | l :: r => l.2.1 ++ (59, 0) :: lts r
def lrs : List LnT → List Int
  | [] => []
  | l :: r => l.2.2.1 ++ 0 :: lrs r
def lns : List LnT → Nat → List (Nat × List Op)
  | [], _ => []
  | l :: r, i => l.2.2.2 i ++ lns r (i + l.2.1.length + 1)
theorem lbs_app : ∀ {a b : List LnT}, lbs (a ++ b) = lbs a ++ lbs b
  | [], b => rfl
  | l :: a, b => by
    show l.1 ++ lbs (a ++ b) = (l.1 ++ lbs a) ++ lbs b
    rw [lbs_app, List.append_assoc]
theorem lts_app : ∀ {a b : List LnT}, lts (a ++ b) = lts a ++ lts b
  | [], b => rfl
  | l :: a, b => by
    show l.2.1 ++ (59, 0) :: lts (a ++ b) = (l.2.1 ++ (59, 0) :: lts a) ++ lts b
    rw [lts_app, List.append_assoc]
    rfl
theorem lrs_app : ∀ {a b : List LnT}, lrs (a ++ b) = lrs a ++ lrs b
  | [], b => rfl
  | l :: a, b => by
    show l.2.2.1 ++ 0 :: lrs (a ++ b) = (l.2.2.1 ++ 0 :: lrs a) ++ lrs b
    rw [lrs_app, List.append_assoc]
    rfl
theorem lns_app : ∀ {a b : List LnT} {i : Nat}, lns (a ++ b) i = lns a i ++ lns b (i + (lts a).length)
  | [], b, i => rfl
  | l :: a, b, i => by
    show l.2.2.2 i ++ lns (a ++ b) (i + l.2.1.length + 1) = (l.2.2.2 i ++ lns a (i + l.2.1.length + 1)) ++ lns b (i + (l.2.1 ++ (59, 0) :: lts a).length)
    rw [lns_app, List.append_assoc]
    congr 3
    simp
    omega
theorem all_lx : ∀ {a : List LnT}, (∀ l ∈ a, LNok l) → Lx (lbs a) (lts a)
  | [], _ => Lx_nil
  | l :: a, h => (h l (List.mem_cons_self ..)).lx _ _ (all_lx (fun q hq => h q (List.mem_cons_of_mem _ hq)))
theorem all_len : ∀ {a : List LnT}, (∀ l ∈ a, LNok l) → (lrs a).length = (lts a).length
  | [], _ => rfl
  | l :: a, h => by
    have ih := all_len (a := a) (fun q hq => h q (List.mem_cons_of_mem _ hq))
    have il := (h l (List.mem_cons_self ..)).ln
    show (l.2.2.1 ++ 0 :: lrs a).length = (l.2.1 ++ (59, 0) :: lts a).length
    simp only [List.length_append, List.length_cons]
    omega
theorem all_gr {kd : Nat → Int} : ∀ {a : List LnT} {i n : Nat}, (∀ l ∈ a, LNok l) → a.length ≤ n → KD kd i ((lts a).map Prod.fst ++ [260]) → gAll kd n i = .inr (i + (lts a).length, lns a i, lrs a)
  | [], i, 0, _, _, h => by
    have k : kd i = 260 := h.1
    show (if kd i = 260 then _ else _) = _
    rw [if_pos k]
    rfl
  | [], i, n + 1, _, _, h => by
    have k : kd i = 260 := h.1
    show (if kd i = 260 then _ else _) = _
    rw [if_pos k]
    rfl
  | l :: a, i, 0, _, hn, _ => absurd hn (by simp)
  | l :: a, i, n + 1, hl, hn, h => by
    have lo := hl l (List.mem_cons_self ..)
    obtain ⟨k, v, r, e1, e2⟩ := lo.hd
    have e : (lts (l :: a)).map Prod.fst ++ [260] = (l.2.1.map Prod.fst ++ [59]) ++ ((lts a).map Prod.fst ++ [260]) := by
      show (l.2.1 ++ (59, 0) :: lts a).map Prod.fst ++ [260] = _
      simp
    rw [e] at h
    obtain ⟨h1, h2⟩ := KD_app h
    have hk : kd i = k := by
      rw [e1] at h1
      exact h1.1
    have g1 := lo.gr kd i h1
    have h59 : kd (i + l.2.1.length) = 59 := by
      have := (KD_app h1).2
      rw [List.length_map] at this
      exact this.1
    have el : i + (l.2.1.map Prod.fst ++ [59]).length = i + l.2.1.length + 1 := by simp; omega
    rw [el] at h2
    have ih := all_gr (a := a) (i := i + l.2.1.length + 1) (n := n) (fun q hq => hl q (List.mem_cons_of_mem _ hq)) (by simpa using hn) h2
    show (if kd i = 260 then _ else _) = _
    rw [if_neg (by rw [hk]; exact e2)]
    have g2 := bndL_ok (f := gAll kd n) (tkL_ok (ro := 0) h59) ih
    have g3 := bndL_ok (f := fun i => bndL (tkL kd 59 0 i) (gAll kd n)) g1 g2
    have g4 : bndL (gLine kd i) (fun i => bndL (tkL kd 59 0 i) (gAll kd n)) = .inr (i + l.2.1.length + 1 + (lts a).length, l.2.2.2 i ++ lns a (i + l.2.1.length + 1), l.2.2.1 ++ 0 :: lrs a) := g3
    rw [g4]
    show (Sum.inr (_, l.2.2.2 i ++ lns a (i + l.2.1.length + 1), l.2.2.1 ++ 0 :: lrs a) : LR) = .inr (i + (l.2.1 ++ (59, 0) :: lts a).length, l.2.2.2 i ++ lns a (i + l.2.1.length + 1), l.2.2.1 ++ 0 :: lrs a)
    rw [show i + l.2.1.length + 1 + (lts a).length = i + (l.2.1 ++ (59, 0) :: lts a).length by simp; omega]
/-- a list's entries from a place on -/
theorem KD_list {A : Type} {d : A} {g : A → Int} : ∀ {m : List A} {a b : List A}, KD (fun j => g ((a ++ m ++ b).getD j d)) a.length (m.map g)
  | [], _, _ => trivial
  | x :: m, a, b => by
    refine ⟨?_, ?_⟩
    · show g ((a ++ x :: m ++ b).getD a.length d) = g x
      rw [List.append_assoc, List.getD_eq_getElem?_getD, List.getElem?_append_right (Nat.le_refl _), Nat.sub_self]
      rfl
    · have := KD_list (d := d) (g := g) (m := m) (a := a ++ [x]) (b := b)
      have e : a ++ [x] ++ m ++ b = a ++ x :: m ++ b := by simp
      rw [e, List.length_append] at this
      exact this
theorem KD_cg {f g : Nat → Int} {n : Nat} (e : ∀ j, j < n → f j = g j) : ∀ {L : List Int} {i : Nat}, i + L.length ≤ n → KD g i L → KD f i L
  | [], _, _, _ => trivial
  | x :: L, i, hn, h => ⟨(e i (by simp at hn; omega)).trans h.1, KD_cg e (by simp at hn; omega) h.2⟩
