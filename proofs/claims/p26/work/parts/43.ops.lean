/-! ===== the operations of a test: (code, x, y), the codes as the class has its steps; (11, voter, project) is one operation ===== -/
abbrev Op : Type := Int × Int × Int
def sv (pp ss : TT) (c x : Int) : Int := if c = 2 then ss 0 0 else if c = 3 then ss 2 0 else if c = 4 then ss 6 x else if c = 5 then s_nf pp ss x else if c = 6 then ss 4 x else if c = 7 then s_pl pp ss x else if c = 8 then (if ss 7 x = -1 then 0 else 1) else x
def rv (c l r : Int) : Int := if c = 12 then w32 (l + r) else if c = 13 then w32 (l - r) else if c = 14 then w32 (l * r) else if c = 15 then (if r = 0 then 0 else w32 (l.tdiv r)) else if c = 16 then min l r else max l r
def cv (c l r : Int) : Int := if c = 18 then (if l < r then 1 else 0) else if c = 19 then (if r < l then 1 else 0) else if c = 20 then (if l = r then 1 else 0) else if c = 21 then (if r < l then 0 else 1) else if c = 22 then (if l < r then 0 else 1) else if c = 23 then (if am_and l r = 0 then 0 else 1) else (if am_or l r = 0 then 0 else 1)
def evo (pp ss : TT) (o : Op) (st : List Int) : List Int :=
  if o.1 = 11 then ss 9 (12 * o.2.1 + o.2.2) :: st else if o.1 < 9 then sv pp ss o.1 o.2.1 :: st else
  match st with
  | [] => []
  | v :: s => if o.1 = 9 then w32 (-v) :: s else if o.1 = 10 then w32 (1 - v) :: s else
    match s with
    | [] => []
    | l :: s' => (if o.1 < 18 then rv o.1 l v else cv o.1 l v) :: s'
def evs (pp ss : TT) : List Op → List Int → List Int
  | [], st => st
  | o :: r, st => evs pp ss r (evo pp ss o st)
/-- one operation by the kinds of what stands on the stack (true: 0 or 1, the answer of a test) -/
def tst1 (pp : TT) (o : Op) (t t1 : List Bool) : Prop :=
  (o.1 = 1 ∧ t1 = false :: t) ∨ (o.1 = 2 ∧ t1 = false :: t) ∨ (o.1 = 3 ∧ t1 = false :: t) ∨
  ((o.1 = 4 ∨ o.1 = 5) ∧ (0 ≤ o.2.1 ∧ o.2.1 < pp 1 0) ∧ t1 = false :: t) ∨ ((o.1 = 6 ∨ o.1 = 7) ∧ (0 ≤ o.2.1 ∧ o.2.1 < pp 2 0) ∧ t1 = false :: t) ∨
  (o.1 = 8 ∧ (0 ≤ o.2.1 ∧ o.2.1 < pp 1 0) ∧ t1 = true :: t) ∨ (o.1 = 11 ∧ (0 ≤ o.2.1 ∧ o.2.1 < pp 2 0) ∧ (0 ≤ o.2.2 ∧ o.2.2 < pp 1 0) ∧ t1 = true :: t) ∨
  (o.1 = 9 ∧ ∃ t0, t = false :: t0 ∧ t1 = false :: t0) ∨ (o.1 = 10 ∧ ∃ t0, t = true :: t0 ∧ t1 = true :: t0) ∨
  ((12 ≤ o.1 ∧ o.1 ≤ 17) ∧ ∃ t0, t = false :: false :: t0 ∧ t1 = false :: t0) ∨ ((18 ≤ o.1 ∧ o.1 ≤ 22) ∧ ∃ t0, t = false :: false :: t0 ∧ t1 = true :: t0) ∨
  ((23 ≤ o.1 ∧ o.1 ≤ 24) ∧ ∃ t0, t = true :: true :: t0 ∧ t1 = true :: t0)
def tst (pp : TT) : List Op → List Bool → List Bool → Prop
  | [], t, t' => t = t'
  | o :: r, t, t' => ∃ t1, tst1 pp o t t1 ∧ tst pp r t1 t'
/-- the stack is of these kinds -/
def kd : List Bool → List Int → Prop
  | [], [] => True
  | b :: t, v :: s => (b = true → v = 0 ∨ v = 1) ∧ kd t s
  | _, _ => False
theorem cv01 (c l r : Int) : cv c l r = 0 ∨ cv c l r = 1 := by
  unfold cv
  repeat' split
  all_goals first | exact Or.inl rfl | exact Or.inr rfl
theorem evo_11 {pp ss : TT} {o : Op} {st : List Int} (e : o.1 = 11) : evo pp ss o st = ss 9 (12 * o.2.1 + o.2.2) :: st := if_pos e
theorem evo_s {pp ss : TT} {o : Op} {st : List Int} (e : o.1 < 9) : evo pp ss o st = sv pp ss o.1 o.2.1 :: st := by
  unfold evo
  rw [if_neg (by omega), if_pos e]
theorem evo_9 {pp ss : TT} {o : Op} {v : Int} {s : List Int} (e : o.1 = 9) : evo pp ss o (v :: s) = w32 (-v) :: s := by
  unfold evo
  rw [if_neg (by omega), if_neg (by omega)]
  show (if o.1 = 9 then _ else _) = _
  rw [if_pos e]
theorem evo_10 {pp ss : TT} {o : Op} {v : Int} {s : List Int} (e : o.1 = 10) : evo pp ss o (v :: s) = w32 (1 - v) :: s := by
  unfold evo
  rw [if_neg (by omega), if_neg (by omega)]
  show (if o.1 = 9 then _ else _) = _
  rw [if_neg (by omega), if_pos e]
theorem evo_b {pp ss : TT} {o : Op} {v l : Int} {s : List Int} (e : 12 ≤ o.1) : evo pp ss o (v :: l :: s) = (if o.1 < 18 then rv o.1 l v else cv o.1 l v) :: s := by
  unfold evo
  rw [if_neg (by omega), if_neg (by omega)]
  show (if o.1 = 9 then _ else _) = _
  rw [if_neg (by omega), if_neg (by omega)]
theorem kd_inv {b : Bool} {t : List Bool} {st : List Int} (h : kd (b :: t) st) : ∃ v s, st = v :: s ∧ (b = true → v = 0 ∨ v = 1) ∧ kd t s := by
  cases st with
  | nil => exact h.elim
  | cons v s => exact ⟨v, s, rfl, h.1, h.2⟩
theorem kd_evo {pp ss : TT} {o : Op} {t t1 : List Bool} {st : List Int} (hS : SI pp ss) (h1 : tst1 pp o t t1) (h2 : kd t st) : kd t1 (evo pp ss o st) := by
  have nf : ∀ x : Int, (false = true) → x = 0 ∨ x = 1 := fun x z => by cases z
  rcases h1 with ⟨e, rfl⟩ | ⟨e, rfl⟩ | ⟨e, rfl⟩ | ⟨e, -, rfl⟩ | ⟨e, -, rfl⟩ | ⟨e, -, rfl⟩ | ⟨e, -, -, rfl⟩ | ⟨e, t0, rfl, rfl⟩ | ⟨e, t0, rfl, rfl⟩ | ⟨e, t0, rfl, rfl⟩ | ⟨e, t0, rfl, rfl⟩ | ⟨e, t0, rfl, rfl⟩
  · rw [evo_s (by omega)]
    exact ⟨nf _, h2⟩
  · rw [evo_s (by omega)]
    exact ⟨nf _, h2⟩
  · rw [evo_s (by omega)]
    exact ⟨nf _, h2⟩
  · rw [evo_s (by omega)]
    exact ⟨nf _, h2⟩
  · rw [evo_s (by omega)]
    exact ⟨nf _, h2⟩
  · rw [evo_s (by omega)]
    refine ⟨fun _ => ?_, h2⟩
    unfold sv
    rw [if_neg (by omega), if_neg (by omega), if_neg (by omega), if_neg (by omega), if_neg (by omega), if_neg (by omega), if_pos e]
    split
    · exact Or.inl rfl
    · exact Or.inr rfl
  · rw [evo_11 e]
    exact ⟨fun _ => hS.fan _, h2⟩
  · obtain ⟨v, s, rfl, g1, g2⟩ := kd_inv h2
    rw [evo_9 e]
    exact ⟨nf _, g2⟩
  · obtain ⟨v, s, rfl, g1, g2⟩ := kd_inv h2
    rw [evo_10 e]
    refine ⟨fun _ => ?_, g2⟩
    rcases g1 rfl with rfl | rfl
    · exact Or.inr rfl
    · exact Or.inl rfl
  · obtain ⟨v, s, rfl, g1, g2⟩ := kd_inv h2
    obtain ⟨l, s, rfl, g3, g4⟩ := kd_inv g2
    rw [evo_b (by omega)]
    exact ⟨nf _, g4⟩
  · obtain ⟨v, s, rfl, g1, g2⟩ := kd_inv h2
    obtain ⟨l, s, rfl, g3, g4⟩ := kd_inv g2
    rw [evo_b (by omega), if_neg (by omega)]
    exact ⟨fun _ => cv01 _ _ _, g4⟩
  · obtain ⟨v, s, rfl, g1, g2⟩ := kd_inv h2
    obtain ⟨l, s, rfl, g3, g4⟩ := kd_inv g2
    rw [evo_b (by omega), if_neg (by omega)]
    exact ⟨fun _ => cv01 _ _ _, g4⟩
theorem kd_evs {pp ss : TT} (hS : SI pp ss) : ∀ {L : List Op} {t t1 : List Bool} {st : List Int}, tst pp L t t1 → kd t st → kd t1 (evs pp ss L st)
  | [], _, _, _, h1, h2 => by
    have h1 : _ = _ := h1
    subst h1
    exact h2
  | o :: r, t, t1, st, ⟨t2, h1, h3⟩, h2 => kd_evs (L := r) (t := t2) (st := evo pp ss o st) hS h3 (kd_evo hS h1 h2)
theorem kd_len : ∀ {t : List Bool} {s : List Int}, kd t s → t.length = s.length
  | [], [], _ => rfl
  | b :: t, v :: s, h => by simp [kd_len h.2]
  | [], _ :: _, h => h.elim
  | _ :: _, [], h => h.elim
/-- the value of a test: 0 or 1 -/
def tv (pp ss : TT) (L : List Op) : Int := (evs pp ss L []).headD 0
theorem tv_one {pp ss : TT} {L : List Op} (hS : SI pp ss) (h : tst pp L [] [true]) : evs pp ss L [] = [tv pp ss L] ∧ (tv pp ss L = 0 ∨ tv pp ss L = 1) := by
  have z1 := kd_evs hS h (show kd [] [] from trivial)
  unfold tv
  generalize evs pp ss L [] = s at z1
  match s, z1 with
  | [], z1 => exact z1.elim
  | [w], z1 => exact ⟨rfl, z1.1 rfl⟩
  | w :: w2 :: s, z1 => exact z1.2.elim
def tbn (pp ss : TT) (tt : Int → List Op) (p : Int) : Nat → Bool
  | 0 => false
  | n + 1 => tbn pp ss tt p n || (decide (pp 7 (n : Int) = p) && decide (tv pp ss (tt (n : Int)) = 1))
/-- banned now -/
def s_bn (pp ss : TT) (tt : Int → List Op) (p : Int) : Bool := tbn pp ss tt p (pp 3 0).toNat
