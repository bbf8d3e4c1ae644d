/-! ===== what the grammar says of roles and operations ===== -/
def okR (kd : Nat → Int) (i : Nat) (r : Int) : Prop := r = 0 ∨ (r = 12 ∧ kd i = 256) ∨ (r = 13 ∧ kd i = 256) ∨ (r = 14 ∧ kd i = 257)
def okS (kd : Nat → Int) : Nat → List Int → Prop
  | _, [] => True
  | i, r :: t => okR kd i r ∧ okS kd (i + 1) t
theorem okS_app {kd : Nat → Int} : ∀ {t t2 : List Int} {i : Nat}, okS kd i t → okS kd (i + t.length) t2 → okS kd i (t ++ t2)
  | [], _, _, _, y => y
  | r :: t, t2, i, x, y => by
    have y' : okS kd (i + (t.length + 1)) t2 := y
    rw [show i + (t.length + 1) = i + 1 + t.length by omega] at y'
    exact ⟨x.1, okS_app x.2 y'⟩
def SG (ro : Nat → Int) : Nat → List Int → Prop
  | _, [] => True
  | i, r :: t => ro i = r ∧ SG ro (i + 1) t
theorem SG_app {ro : Nat → Int} : ∀ {t t2 : List Int} {i : Nat}, SG ro i (t ++ t2) ↔ SG ro i t ∧ SG ro (i + t.length) t2
  | [], _, _ => ⟨fun y => ⟨trivial, y⟩, fun y => y.2⟩
  | r :: t, t2, i => by
    show (ro i = r ∧ SG ro (i + 1) (t ++ t2)) ↔ (ro i = r ∧ SG ro (i + 1) t) ∧ SG ro (i + (t.length + 1)) t2
    rw [SG_app, show i + (t.length + 1) = i + 1 + t.length by omega]
    exact ⟨fun y => ⟨⟨y.1, y.2.1⟩, y.2.2⟩, fun y => ⟨y.1.1, y.1.2, y.2⟩⟩
/-- an operation's tokens -/
def AR (ro : Nat → Int) (j : Nat) (o : Op) : Prop := (0 ≤ o.2.1 ∧ (o.2.1 = 0 ∨ o.2.1 < (j : Int))) ∧ (0 ≤ o.2.2 ∧ (o.2.2 = 0 ∨ o.2.2 < (j : Int))) ∧ (o.1 = 1 → ro o.2.1.toNat = 14 ∧ o.2.1 < (j : Int)) ∧ (o.1 = 4 ∨ o.1 = 5 ∨ o.1 = 8 → ro o.2.1.toNat = 12 ∧ o.2.1 < (j : Int)) ∧ (o.1 = 6 ∨ o.1 = 7 → ro o.2.1.toNat = 13 ∧ o.2.1 < (j : Int)) ∧ (o.1 = 11 → (ro o.2.1.toNat = 13 ∧ o.2.1 < (j : Int)) ∧ ro o.2.2.toNat = 12 ∧ o.2.2 < (j : Int))
theorem AR.le {ro : Nat → Int} {j k : Nat} {o : Op} (x : AR ro j o) (h : j ≤ k) : AR ro k o := by
  obtain ⟨a1, a2, a3, a4, a5, a6⟩ := x
  refine ⟨⟨a1.1, by omega⟩, ⟨a2.1, by omega⟩, fun e => ⟨(a3 e).1, by have := (a3 e).2; omega⟩, fun e => ⟨(a4 e).1, by have := (a4 e).2; omega⟩, fun e => ⟨(a5 e).1, by have := (a5 e).2; omega⟩, fun e => ⟨⟨(a6 e).1.1, by have := (a6 e).1.2; omega⟩, (a6 e).2.1, by have := (a6 e).2.2; omega⟩⟩
/-- an operation by the kinds of what stands on the stack, its names not yet known -/
def tu1 (o : Op) (t t1 : List Bool) : Prop :=
  ((1 ≤ o.1 ∧ o.1 ≤ 7) ∧ t1 = false :: t) ∨ ((o.1 = 8 ∨ o.1 = 11) ∧ t1 = true :: t) ∨
  (o.1 = 9 ∧ ∃ t0, t = false :: t0 ∧ t1 = false :: t0) ∨ (o.1 = 10 ∧ ∃ t0, t = true :: t0 ∧ t1 = true :: t0) ∨
  ((12 ≤ o.1 ∧ o.1 ≤ 17) ∧ ∃ t0, t = false :: false :: t0 ∧ t1 = false :: t0) ∨ ((18 ≤ o.1 ∧ o.1 ≤ 22) ∧ ∃ t0, t = false :: false :: t0 ∧ t1 = true :: t0) ∨
  ((23 ≤ o.1 ∧ o.1 ≤ 24) ∧ ∃ t0, t = true :: true :: t0 ∧ t1 = true :: t0)
def tu : List Op → List Bool → List Bool → Prop
  | [], t, t' => t = t'
  | o :: r, t, t' => ∃ t1, tu1 o t t1 ∧ tu r t1 t'
theorem tu_app : ∀ {L M : List Op} {t t1 t2 : List Bool}, tu L t t1 → tu M t1 t2 → tu (L ++ M) t t2
  | [], _, _, _, _, x, y => by
    have x' : _ = _ := x
    subst x'
    exact y
  | o :: r, M, t, t1, t2, x, y => by
    obtain ⟨t3, x1, x2⟩ := x
    exact ⟨t3, x1, tu_app x2 y⟩
def QQ (kd : Nat → Int) (i : Nat) (a b : List Bool) : PR → Prop
  | .inl _ => True
  | .inr (j, s, t) => j = i + t.length ∧ okS kd i t ∧ (∀ ro, SG ro i t → ∀ o ∈ s, AR ro j o) ∧ ∀ st, tu s (a ++ st) (b ++ st)
section
variable {kd : Nat → Int} {i : Nat} {a b c : List Bool}
theorem QQ.bd {r : PR} {f : GF} (x : QQ kd i a b r) (y : ∀ j, QQ kd j b c (f j)) : QQ kd i a c (bnd r f) := by
  cases r with
  | inl j => trivial
  | inr r =>
    obtain ⟨j, s, t⟩ := r
    obtain ⟨x1, x2, x3, x4⟩ := x
    have yj := y j
    show QQ kd i a c (match f j with | .inl k => .inl k | .inr (k, s2, t2) => .inr (k, s ++ s2, t ++ t2))
    revert yj
    cases f j with
    | inl m => exact fun _ => trivial
    | inr q =>
      obtain ⟨m, s2, t2⟩ := q
      intro yj
      obtain ⟨y1, y2, y3, y4⟩ := yj
      refine ⟨by rw [List.length_append]; omega, okS_app x2 (by rw [← x1]; exact y2), fun ro hs o ho => ?_, fun st => tu_app (x4 st) (y4 st)⟩
      rw [SG_app, ← x1] at hs
      rcases List.mem_append.1 ho with h | h
      · exact (x3 ro hs.1 o h).le (by omega)
      · exact y3 ro hs.2 o h
theorem QQ.fr {r : PR} (x : QQ kd i a b r) (c : List Bool) : QQ kd i (a ++ c) (b ++ c) r := by
  cases r with
  | inl j => trivial
  | inr r =>
    obtain ⟨j, s, t⟩ := r
    obtain ⟨x1, x2, x3, x4⟩ := x
    refine ⟨x1, x2, x3, fun st => ?_⟩
    rw [List.append_assoc, List.append_assoc]
    exact x4 (c ++ st)
theorem QQ.tk0 {k : Int} : QQ kd i a a (tk kd k 0 i) := by
  unfold tk
  split
  · exact ⟨rfl, ⟨Or.inl rfl, trivial⟩, fun _ _ o ho => absurd ho (List.not_mem_nil), fun _ => rfl⟩
  · trivial
theorem QQ.ok0 : QQ kd i a a (.inr (i, [], [])) := ⟨rfl, trivial, fun _ _ o ho => absurd ho (List.not_mem_nil), fun _ => rfl⟩
theorem AR.pl {ro : Nat → Int} {j : Nat} {c : Int} (h : c ≠ 1 ∧ c ≠ 4 ∧ c ≠ 5 ∧ c ≠ 6 ∧ c ≠ 7 ∧ c ≠ 8 ∧ c ≠ 11) : AR ro j (c, 0, 0) := by
  obtain ⟨h1, h4, h5, h6, h7, h8, h11⟩ := h
  refine ⟨⟨Int.le_refl _, Or.inl rfl⟩, ⟨Int.le_refl _, Or.inl rfl⟩, fun e => absurd e h1, fun e => ?_, fun e => ?_, fun e => absurd e h11⟩
  · rcases e with e | e | e
    · exact absurd e h4
    · exact absurd e h5
    · exact absurd e h8
  · rcases e with e | e
    · exact absurd e h6
    · exact absurd e h7
theorem QQ.em0 {k : Int} (h : k ≠ 1 ∧ k ≠ 4 ∧ k ≠ 5 ∧ k ≠ 6 ∧ k ≠ 7 ∧ k ≠ 8 ∧ k ≠ 11) (ty : ∀ st, tu1 (k, 0, 0) (a ++ st) (b ++ st)) : QQ kd i a b (em (k, 0, 0) i) := by
  refine ⟨rfl, trivial, fun ro _ o ho => ?_, fun st => ⟨_, ty st, rfl⟩⟩
  rw [List.mem_singleton] at ho
  subst ho
  exact AR.pl h
theorem QQ.nm12 {k : Int} {x : Bool} (h : k = 4 ∨ k = 5 ∨ k = 8) (hx : x = decide (k = 8)) : QQ kd i [] [x] (nm kd 12 k i) := by
  unfold nm
  split
  · rename_i z
    refine ⟨rfl, ⟨Or.inr (Or.inl ⟨rfl, z⟩), trivial⟩, fun ro hs o ho => ?_, fun st => ⟨x :: st, ?_, rfl⟩⟩
    · rw [List.mem_singleton] at ho
      subst ho
      have h1 := hs.1
      refine ⟨⟨by show (0 : Int) ≤ (i : Int); omega, Or.inr (by show (i : Int) < ((i + 1 : Nat) : Int); omega)⟩, ⟨Int.le_refl _, Or.inl rfl⟩, fun e => ?_, fun _ => ⟨h1, by show (i : Int) < ((i + 1 : Nat) : Int); omega⟩, fun e => ?_, fun e => ?_⟩
      · have e' : k = 1 := e
        omega
      · have e' : k = 6 ∨ k = 7 := e
        omega
      · have e' : k = 11 := e
        omega
    · unfold tu1
      show ((1 ≤ k ∧ k ≤ 7) ∧ x :: st = false :: st) ∨ ((k = 8 ∨ k = 11) ∧ x :: st = true :: st) ∨ _
      by_cases y : k = 8
      · rw [hx, decide_eq_true y]
        exact Or.inr (Or.inl ⟨Or.inl y, rfl⟩)
      · rw [hx, decide_eq_false y]
        exact Or.inl ⟨by omega, rfl⟩
  · trivial
theorem QQ.nm13 {k : Int} (h : k = 6 ∨ k = 7) : QQ kd i [] [false] (nm kd 13 k i) := by
  unfold nm
  split
  · rename_i z
    refine ⟨rfl, ⟨Or.inr (Or.inr (Or.inl ⟨rfl, z⟩)), trivial⟩, fun ro hs o ho => ?_, fun st => ⟨false :: st, Or.inl ⟨?_, rfl⟩, rfl⟩⟩
    · rw [List.mem_singleton] at ho
      subst ho
      have h1 := hs.1
      refine ⟨⟨by show (0 : Int) ≤ (i : Int); omega, Or.inr (by show (i : Int) < ((i + 1 : Nat) : Int); omega)⟩, ⟨Int.le_refl _, Or.inl rfl⟩, fun e => ?_, fun e => ?_, fun _ => ⟨h1, by show (i : Int) < ((i + 1 : Nat) : Int); omega⟩, fun e => ?_⟩
      · have e' : k = 1 := e
        omega
      · have e' : k = 4 ∨ k = 5 ∨ k = 8 := e
        omega
      · have e' : k = 11 := e
        omega
    · show 1 ≤ k ∧ k ≤ 7
      omega
  · trivial
theorem QQ.lk0 : QQ kd i [] [true] (lk kd i) := by
  unfold lk
  split
  · rename_i z
    split
    · rename_i z2
      refine ⟨rfl, ⟨Or.inr (Or.inr (Or.inl ⟨rfl, z⟩)), Or.inr (Or.inl ⟨rfl, z2⟩), trivial⟩, fun ro hs o ho => ?_, fun st => ⟨true :: st, Or.inr (Or.inl ⟨Or.inr rfl, rfl⟩), rfl⟩⟩
      rw [List.mem_singleton] at ho
      subst ho
      have h1 := hs.1
      have h2 := hs.2.1
      exact ⟨⟨by show (0 : Int) ≤ (i : Int); omega, Or.inr (by show (i : Int) < ((i + 2 : Nat) : Int); omega)⟩, ⟨by show (0 : Int) ≤ ((i + 1 : Nat) : Int); omega, Or.inr (by show ((i + 1 : Nat) : Int) < ((i + 2 : Nat) : Int); omega)⟩, fun e => absurd e (show ¬ (11 : Int) = 1 by decide), fun e => absurd e (show ¬ ((11 : Int) = 4 ∨ (11 : Int) = 5 ∨ (11 : Int) = 8) by decide), fun e => absurd e (show ¬ ((11 : Int) = 6 ∨ (11 : Int) = 7) by decide), fun _ => ⟨⟨h1, by show (i : Int) < ((i + 2 : Nat) : Int); omega⟩, h2, by show ((i + 1 : Nat) : Int) < ((i + 2 : Nat) : Int); omega⟩⟩
    · trivial
  · trivial
theorem QQ.num (z : kd i = 257) : QQ kd i [] [false] (gNum i) := by
  refine ⟨rfl, ⟨Or.inr (Or.inr (Or.inr ⟨rfl, z⟩)), trivial⟩, fun ro hs o ho => ?_, fun st => ⟨false :: st, Or.inl ⟨⟨Int.le_refl _, by show (1 : Int) ≤ 7; decide⟩, rfl⟩, rfl⟩⟩
  rw [List.mem_singleton] at ho
  subst ho
  have h1 := hs.1
  exact ⟨⟨by show (0 : Int) ≤ (i : Int); omega, Or.inr (by show (i : Int) < ((i + 1 : Nat) : Int); omega)⟩, ⟨Int.le_refl _, Or.inl rfl⟩, fun _ => ⟨h1, by show (i : Int) < ((i + 1 : Nat) : Int); omega⟩, fun e => absurd e (show ¬ ((1 : Int) = 4 ∨ (1 : Int) = 5 ∨ (1 : Int) = 8) by decide), fun e => absurd e (show ¬ ((1 : Int) = 6 ∨ (1 : Int) = 7) by decide), fun e => absurd e (show ¬ (1 : Int) = 11 by decide)⟩
def IV (kd : Nat → Int) (f : GF) : Prop := ∀ i, QQ kd i [] [false] (f i)
def IT (kd : Nat → Int) (f : GF) : Prop := ∀ i, QQ kd i [] [true] (f i)
theorem lp_v {f : GF} (hf : IV kd f) {k1 k2 c1 c2 : Int} (h1 : 12 ≤ c1 ∧ c1 ≤ 17) (h2 : 12 ≤ c2 ∧ c2 ≤ 17) : ∀ n i, QQ kd i [false] [false] (gLp kd f k1 c1 k2 c2 n i)
  | 0, _ => QQ.ok0
  | n + 1, i => by
    have go : ∀ c j, (12 ≤ c ∧ c ≤ 17) → QQ kd j [false] [false] (bnd (f j) fun i => bnd (em (c, 0, 0) i) (gLp kd f k1 c1 k2 c2 n)) := fun c j hc => QQ.bd (b := [false, false]) ((hf j).fr [false]) (fun j2 => QQ.bd (b := [false]) (QQ.em0 (by omega) (fun st => Or.inr (Or.inr (Or.inr (Or.inr (Or.inl ⟨hc, st, rfl, rfl⟩)))))) (fun j3 => lp_v hf h1 h2 n j3))
    show QQ kd i [false] [false] (if kd i = k1 then bnd (tk kd k1 0 i) fun i => bnd (f i) fun i => bnd (em (c1, 0, 0) i) (gLp kd f k1 c1 k2 c2 n) else if kd i = k2 then bnd (tk kd k2 0 i) fun i => bnd (f i) fun i => bnd (em (c2, 0, 0) i) (gLp kd f k1 c1 k2 c2 n) else .inr (i, [], []))
    split
    · exact QQ.tk0.bd (fun j => go c1 j h1)
    · split
      · exact QQ.tk0.bd (fun j => go c2 j h2)
      · exact QQ.ok0
theorem lp_t {f : GF} (hf : IT kd f) {k1 c1 : Int} (h1 : 23 ≤ c1 ∧ c1 ≤ 24) : ∀ n i, QQ kd i [true] [true] (gLp kd f k1 c1 k1 c1 n i)
  | 0, _ => QQ.ok0
  | n + 1, i => by
    have go : ∀ j, QQ kd j [true] [true] (bnd (f j) fun i => bnd (em (c1, 0, 0) i) (gLp kd f k1 c1 k1 c1 n)) := fun j => QQ.bd (b := [true, true]) ((hf j).fr [true]) (fun j2 => QQ.bd (b := [true]) (QQ.em0 (by omega) (fun st => Or.inr (Or.inr (Or.inr (Or.inr (Or.inr (Or.inr ⟨h1, st, rfl, rfl⟩))))))) (fun j3 => lp_t hf h1 n j3))
    show QQ kd i [true] [true] (if kd i = k1 then bnd (tk kd k1 0 i) fun i => bnd (f i) fun i => bnd (em (c1, 0, 0) i) (gLp kd f k1 c1 k1 c1 n) else if kd i = k1 then bnd (tk kd k1 0 i) fun i => bnd (f i) fun i => bnd (em (c1, 0, 0) i) (gLp kd f k1 c1 k1 c1 n) else .inr (i, [], []))
    split
    · exact QQ.tk0.bd go
    · exact QQ.ok0
theorem iv_sum {v : GF} (h : IV kd v) : IV kd (gSum kd v) := fun i => QQ.bd ((fun i => QQ.bd (h i) (fun j => lp_v h (by decide) (by decide) 400 j) : IV kd (gPrd kd v)) i) (fun j => lp_v (fun i => QQ.bd (h i) (fun j => lp_v h (by decide) (by decide) 400 j)) (by decide) (by decide) 400 j)
theorem it_tst {s : GF} (h : IT kd s) : IT kd (gTst kd s) := fun i => QQ.bd ((fun i => QQ.bd (h i) (fun j => lp_t h (by decide) 400 j) : IT kd (gBth kd s)) i) (fun j => lp_t (fun i => QQ.bd (h i) (fun j => lp_t h (by decide) 400 j)) (by decide) 400 j)
def ILV (kd : Nat → Int) : Option (GF × GF) → Prop
  | none => True
  | some v => IV kd v.1 ∧ IV kd v.2
theorem iv_pair {lv : Option (GF × GF)} (h : ILV kd lv) {k : Int} (hk : 12 ≤ k ∧ k ≤ 17) (i : Nat) : QQ kd i [] [false] (bnd (gPair kd lv i) (em (k, 0, 0))) := by
  cases lv with
  | none => trivial
  | some v =>
    refine QQ.bd (b := [false, false]) ?_ (fun j => QQ.em0 (by omega) (fun st => Or.inr (Or.inr (Or.inr (Or.inr (Or.inl ⟨hk, st, rfl, rfl⟩))))))
    exact QQ.tk0.bd (fun j => QQ.bd (b := [false]) (h.2 j) (fun j => QQ.tk0.bd (fun j => QQ.bd (b := [false, false]) ((h.2 j).fr [false]) (fun j => QQ.tk0))))
theorem iv_val {lv : Option (GF × GF)} (h : ILV kd lv) : IV kd (gVal kd lv) := by
  intro i
  by_cases z40 : kd i = 40
  · rw [gVal_40 z40]
    cases lv with
    | none => trivial
    | some v => exact QQ.tk0.bd (fun j => QQ.bd (h.2 j) (fun j => QQ.tk0))
  by_cases z45 : kd i = 45
  · rw [gVal_45 z45]
    cases lv with
    | none => trivial
    | some v => exact QQ.tk0.bd (fun j => QQ.bd (h.1 j) (fun j => QQ.em0 (by decide) (fun st => Or.inr (Or.inr (Or.inl ⟨rfl, st, rfl, rfl⟩)))))
  by_cases z257 : kd i = 257
  · rw [gVal_257 z257]
    exact QQ.num z257
  by_cases z303 : kd i = 303
  · rw [gVal_303 z303]
    exact QQ.tk0.bd (fun j => QQ.nm12 (by decide) rfl)
  by_cases z311 : kd i = 311
  · rw [gVal_311 z311]
    exact QQ.tk0.bd (fun j => QQ.em0 (by decide) (fun st => Or.inl ⟨⟨by show (1 : Int) ≤ 2; decide, by show (2 : Int) ≤ 7; decide⟩, rfl⟩))
  by_cases z312 : kd i = 312
  · rw [gVal_312 z312]
    exact QQ.tk0.bd (fun j => QQ.em0 (by decide) (fun st => Or.inl ⟨⟨by show (1 : Int) ≤ 3; decide, by show (3 : Int) ≤ 7; decide⟩, rfl⟩))
  by_cases z313 : kd i = 313
  · rw [gVal_313 z313]
    exact QQ.tk0.bd (fun j => QQ.nm13 (by decide))
  by_cases z314 : kd i = 314
  · rw [gVal_314 z314]
    exact QQ.tk0.bd (fun j => QQ.nm12 (by decide) rfl)
  by_cases z316 : kd i = 316
  · rw [gVal_316 z316]
    exact QQ.tk0.bd (fun j => QQ.nm13 (by decide))
  by_cases z320 : kd i = 320
  · rw [gVal_320 z320]
    exact QQ.tk0.bd (fun j => iv_pair h (by decide) j)
  by_cases z321 : kd i = 321
  · rw [gVal_321 z321]
    exact QQ.tk0.bd (fun j => iv_pair h (by decide) j)
  rw [gVal_no z40 z45 z257 z303 z311 z312 z313 z314 z316 z320 z321]
  trivial
theorem iv_lv : ∀ n, ILV kd (gLv kd n)
  | 0 => trivial
  | n + 1 => ⟨iv_val (iv_lv n), iv_sum (iv_val (iv_lv n))⟩
theorem iv_su (n : Nat) : IV kd (gS kd n) := iv_sum (iv_val (iv_lv n))
theorem gCc_ty {x : Int} (h : gCc x ≠ 0) : 18 ≤ gCc x ∧ gCc x ≤ 22 := by
  by_cases e1 : x = 60
  · subst e1
    decide
  by_cases e2 : x = 61
  · subst e2
    decide
  by_cases e3 : x = 62
  · subst e3
    decide
  by_cases e4 : x = 258
  · subst e4
    decide
  by_cases e5 : x = 259
  · subst e5
    decide
  refine absurd ?_ h
  unfold gCc
  rw [if_neg e1, if_neg e2, if_neg e3, if_neg e4, if_neg e5]
theorem it_cmp {su : GF} (h : IV kd su) : IT kd (gCmp kd su) := by
  intro i
  refine QQ.bd (b := [false]) (h i) (fun j => ?_)
  show QQ kd j [false] [true] (if gCc (kd j) = 0 then .inl j else bnd (tk kd (kd j) 0 j) fun j2 => bnd (su j2) (em (gCc (kd j), 0, 0)))
  split
  · trivial
  · rename_i z
    have ty := gCc_ty z
    exact QQ.tk0.bd (fun j2 => QQ.bd (b := [false, false]) ((h j2).fr [false]) (fun j3 => QQ.em0 (by omega) (fun st => Or.inr (Or.inr (Or.inr (Or.inr (Or.inr (Or.inl ⟨ty, st, rfl, rfl⟩))))))))
def ILT (kd : Nat → Int) : Option (GF × GF) → Prop
  | none => True
  | some v => IT kd v.1 ∧ IT kd v.2
theorem it_sng {su : GF} {lt : Option (GF × GF)} (h : ILT kd lt) (hs : IV kd su) : IT kd (gSng kd su lt) := by
  intro i
  by_cases z1 : kd i = 91
  · rw [gSng_91 z1]
    cases lt with
    | none => trivial
    | some v => exact QQ.tk0.bd (fun j => QQ.bd (h.2 j) (fun j => QQ.tk0))
  by_cases z2 : kd i = 307
  · rw [gSng_307 z2]
    exact QQ.tk0.bd (fun j => QQ.lk0)
  by_cases z3 : kd i = 315
  · rw [gSng_315 z3]
    exact QQ.tk0.bd (fun j => QQ.nm12 (by decide) rfl)
  by_cases z4 : kd i = 317
  · rw [gSng_317 z4]
    cases lt with
    | none => trivial
    | some v => exact QQ.tk0.bd (fun j => QQ.bd (h.1 j) (fun j => QQ.em0 (by decide) (fun st => Or.inr (Or.inr (Or.inr (Or.inl ⟨rfl, st, rfl, rfl⟩))))))
  rw [gSng_no z1 z2 z3 z4]
  exact it_cmp hs i
theorem it_lt : ∀ n, ILT kd (gLt kd n)
  | 0 => trivial
  | n + 1 => ⟨it_sng (it_lt n) (iv_su n), it_tst (it_sng (it_lt n) (iv_su n))⟩
theorem it_t : IT kd (gT kd 8) := it_tst (it_sng (it_lt 8) (iv_su 8))
end
