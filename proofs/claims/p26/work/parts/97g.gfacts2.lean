/-! ===== what the grammar says of lines ===== -/
def RFg (kd ro : Nat → Int) (j : Nat) : Prop := (0 ≤ ro j ∧ ro j ≤ 14) ∧ (ro j = 5 → cn ro 1 j = cn ro 5 j + 1) ∧ (ro j = 6 → cn ro 2 j = cn ro 6 j + 1) ∧ (ro j = 7 → cn ro 2 j = cn ro 7 j + 1) ∧ (ro j = 9 → cn ro 2 j = cn ro 9 j + 1) ∧ (ro j = 10 → 1 ≤ cn ro 3 j) ∧ (ro j = 11 → cn ro 4 j = cn ro 11 j + 1) ∧ (ro j = 1 ∨ ro j = 2 ∨ ro j = 3 ∨ (9 ≤ ro j ∧ ro j ≤ 13) → kd j = 256) ∧ ((5 ≤ ro j ∧ ro j ≤ 8) ∨ ro j = 14 → kd j = 257)
/-- what is open: wards without cap, projects without cost, ward, grows, bans without project; whether there is a voter -/
def BL (a b c d e v : Nat) (ro : Nat → Int) (k : Nat) : Prop := cn ro 1 k = cn ro 5 k + a ∧ cn ro 2 k = cn ro 6 k + b ∧ cn ro 2 k = cn ro 9 k + c ∧ cn ro 2 k = cn ro 7 k + d ∧ cn ro 4 k = cn ro 11 k + e ∧ v ≤ cn ro 3 k
abbrev CP2 : Type := (Nat → Int) → Nat → Prop
def LQ (kd : Nat → Int) (Pre Post : CP2) (i : Nat) : LR → Prop
  | .inl _ => True
  | .inr (j, s, t) => j = i + t.length ∧ ∀ ro, SG ro i t → Pre ro i → (∀ k, i ≤ k → k < j → RFg kd ro k) ∧ Post ro j ∧ nl ro 4 j = nl ro 4 i ++ s.map Prod.fst ∧ (∀ b ∈ s, tu b.2 [] [true] ∧ ∀ o ∈ b.2, AR ro j o)
section
variable {kd : Nat → Int} {i : Nat} {A B C : CP2}
theorem LQ.bd {r : LR} {f : LF} (x : LQ kd A B i r) (y : ∀ j, LQ kd B C j (f j)) : LQ kd A C i (bndL r f) := by
  cases r with
  | inl j => trivial
  | inr r =>
    obtain ⟨j, s, t⟩ := r
    obtain ⟨x1, x2⟩ := x
    have yj := y j
    show LQ kd A C i (match f j with | .inl k => .inl k | .inr (k, s2, t2) => .inr (k, s ++ s2, t ++ t2))
    revert yj
    cases f j with
    | inl m => exact fun _ => trivial
    | inr q =>
      obtain ⟨m, s2, t2⟩ := q
      intro yj
      obtain ⟨y1, y2⟩ := yj
      refine ⟨by rw [List.length_append]; omega, fun ro hs ha => ?_⟩
      rw [SG_app, ← x1] at hs
      obtain ⟨a1, a2, a3, a4⟩ := x2 ro hs.1 ha
      obtain ⟨b1, b2, b3, b4⟩ := y2 ro hs.2 a2
      refine ⟨fun k h1 h2 => ?_, b2, by rw [b3, a3, List.map_append, List.append_assoc], fun b hb => ?_⟩
      · by_cases z : k < j
        · exact a1 k h1 z
        · exact b1 k (by omega) h2
      · rcases List.mem_append.1 hb with h | h
        · exact ⟨(a4 b h).1, fun o ho => ((a4 b h).2 o ho).le (by omega)⟩
        · exact b4 b h
theorem LQ.ok0 (h : ∀ ro k, A ro k → B ro k) : LQ kd A B i (.inr (i, [], [])) := ⟨rfl, fun ro _ ha => ⟨fun k h1 h2 => absurd h2 (by omega), h ro i ha, (List.append_nil _).symm, fun b hb => absurd hb (List.not_mem_nil)⟩⟩
theorem LQ.tk0 {c r : Int} (hr : r ≠ 4) (h : ∀ ro k, ro k = r → kd k = c → A ro k → RFg kd ro k ∧ B ro (k + 1)) : LQ kd A B i (tkL kd c r i) := by
  unfold tkL
  split
  · rename_i z
    refine ⟨rfl, fun ro hs ha => ?_⟩
    have hh := h ro i hs.1 z ha
    refine ⟨fun k h1 h2 => ?_, hh.2, ?_, fun b hb => absurd hb (List.not_mem_nil)⟩
    · have e : k = i := by
        have : k < i + 1 := h2
        omega
      rw [e]
      exact hh.1
    · show nl ro 4 (i + 1) = nl ro 4 i ++ []
      rw [List.append_nil, nlE (by rw [hs.1]; exact hr)]
  · trivial
/-- one token, by its role -/
theorem bl_step {ro : Nat → Int} {k : Nat} {r : Int} (e : ro k = r) (as : Int) : cn ro as (k + 1) = cn ro as k + (if r = as then 1 else 0) := by
  show cn ro as k + (if ro k = as then 1 else 0) = _
  rw [e]
theorem bl0 {a b c d e v : Nat} {c0 : Int} : ∀ ro k, ro k = 0 → kd k = c0 → BL a b c d e v ro k → RFg kd ro k ∧ BL a b c d e v ro (k + 1) := by
  intro ro k er ek h
  obtain ⟨h1, h2, h3, h4, h5, h6⟩ := h
  have e1 := bl_step er 1
  have e2 := bl_step er 2
  have e3 := bl_step er 3
  have e4 := bl_step er 4
  have e5 := bl_step er 5
  have e6 := bl_step er 6
  have e7 := bl_step er 7
  have e9 := bl_step er 9
  have e11 := bl_step er 11
  simp only [Int.reduceEq, if_true, if_false, ite_true, ite_false] at e1 e2 e3 e4 e5 e6 e7 e9 e11
  refine ⟨⟨by omega, fun _ => by omega, fun _ => by omega, fun _ => by omega, fun _ => by omega, fun _ => by omega, fun _ => by omega, fun _ => by omega, fun _ => by omega⟩, ?_⟩
  unfold BL
  omega
theorem bl1 {a b c d e v : Nat} : ∀ ro k, ro k = 1 → kd k = 256 → BL a b c d e v ro k → RFg kd ro k ∧ BL (a + 1) b c d e v ro (k + 1) := by
  intro ro k er ek h
  obtain ⟨h1, h2, h3, h4, h5, h6⟩ := h
  have e1 := bl_step er 1
  have e2 := bl_step er 2
  have e3 := bl_step er 3
  have e4 := bl_step er 4
  have e5 := bl_step er 5
  have e6 := bl_step er 6
  have e7 := bl_step er 7
  have e9 := bl_step er 9
  have e11 := bl_step er 11
  simp only [Int.reduceEq, if_true, if_false, ite_true, ite_false] at e1 e2 e3 e4 e5 e6 e7 e9 e11
  refine ⟨⟨by omega, fun _ => by omega, fun _ => by omega, fun _ => by omega, fun _ => by omega, fun _ => by omega, fun _ => by omega, fun _ => by omega, fun _ => by omega⟩, ?_⟩
  unfold BL
  omega
theorem bl2 {a b c d e v : Nat} : ∀ ro k, ro k = 2 → kd k = 256 → BL a b c d e v ro k → RFg kd ro k ∧ BL a (b + 1) (c + 1) (d + 1) e v ro (k + 1) := by
  intro ro k er ek h
  obtain ⟨h1, h2, h3, h4, h5, h6⟩ := h
  have e1 := bl_step er 1
  have e2 := bl_step er 2
  have e3 := bl_step er 3
  have e4 := bl_step er 4
  have e5 := bl_step er 5
  have e6 := bl_step er 6
  have e7 := bl_step er 7
  have e9 := bl_step er 9
  have e11 := bl_step er 11
  simp only [Int.reduceEq, if_true, if_false, ite_true, ite_false] at e1 e2 e3 e4 e5 e6 e7 e9 e11
  refine ⟨⟨by omega, fun _ => by omega, fun _ => by omega, fun _ => by omega, fun _ => by omega, fun _ => by omega, fun _ => by omega, fun _ => by omega, fun _ => by omega⟩, ?_⟩
  unfold BL
  omega
theorem bl3 {a b c d e v : Nat} : ∀ ro k, ro k = 3 → kd k = 256 → BL a b c d e v ro k → RFg kd ro k ∧ BL a b c d e 1 ro (k + 1) := by
  intro ro k er ek h
  obtain ⟨h1, h2, h3, h4, h5, h6⟩ := h
  have e1 := bl_step er 1
  have e2 := bl_step er 2
  have e3 := bl_step er 3
  have e4 := bl_step er 4
  have e5 := bl_step er 5
  have e6 := bl_step er 6
  have e7 := bl_step er 7
  have e9 := bl_step er 9
  have e11 := bl_step er 11
  simp only [Int.reduceEq, if_true, if_false, ite_true, ite_false] at e1 e2 e3 e4 e5 e6 e7 e9 e11
  refine ⟨⟨by omega, fun _ => by omega, fun _ => by omega, fun _ => by omega, fun _ => by omega, fun _ => by omega, fun _ => by omega, fun _ => by omega, fun _ => by omega⟩, ?_⟩
  unfold BL
  omega
theorem bl5 {b c d e v : Nat} : ∀ ro k, ro k = 5 → kd k = 257 → BL 1 b c d e v ro k → RFg kd ro k ∧ BL 0 b c d e v ro (k + 1) := by
  intro ro k er ek h
  obtain ⟨h1, h2, h3, h4, h5, h6⟩ := h
  have e1 := bl_step er 1
  have e2 := bl_step er 2
  have e3 := bl_step er 3
  have e4 := bl_step er 4
  have e5 := bl_step er 5
  have e6 := bl_step er 6
  have e7 := bl_step er 7
  have e9 := bl_step er 9
  have e11 := bl_step er 11
  simp only [Int.reduceEq, if_true, if_false, ite_true, ite_false] at e1 e2 e3 e4 e5 e6 e7 e9 e11
  refine ⟨⟨by omega, fun _ => by omega, fun _ => by omega, fun _ => by omega, fun _ => by omega, fun _ => by omega, fun _ => by omega, fun _ => by omega, fun _ => by omega⟩, ?_⟩
  unfold BL
  omega
theorem bl6 {a c d e v : Nat} : ∀ ro k, ro k = 6 → kd k = 257 → BL a 1 c d e v ro k → RFg kd ro k ∧ BL a 0 c d e v ro (k + 1) := by
  intro ro k er ek h
  obtain ⟨h1, h2, h3, h4, h5, h6⟩ := h
  have e1 := bl_step er 1
  have e2 := bl_step er 2
  have e3 := bl_step er 3
  have e4 := bl_step er 4
  have e5 := bl_step er 5
  have e6 := bl_step er 6
  have e7 := bl_step er 7
  have e9 := bl_step er 9
  have e11 := bl_step er 11
  simp only [Int.reduceEq, if_true, if_false, ite_true, ite_false] at e1 e2 e3 e4 e5 e6 e7 e9 e11
  refine ⟨⟨by omega, fun _ => by omega, fun _ => by omega, fun _ => by omega, fun _ => by omega, fun _ => by omega, fun _ => by omega, fun _ => by omega, fun _ => by omega⟩, ?_⟩
  unfold BL
  omega
theorem bl7 {a b c e v : Nat} : ∀ ro k, ro k = 7 → kd k = 257 → BL a b c 1 e v ro k → RFg kd ro k ∧ BL a b c 0 e v ro (k + 1) := by
  intro ro k er ek h
  obtain ⟨h1, h2, h3, h4, h5, h6⟩ := h
  have e1 := bl_step er 1
  have e2 := bl_step er 2
  have e3 := bl_step er 3
  have e4 := bl_step er 4
  have e5 := bl_step er 5
  have e6 := bl_step er 6
  have e7 := bl_step er 7
  have e9 := bl_step er 9
  have e11 := bl_step er 11
  simp only [Int.reduceEq, if_true, if_false, ite_true, ite_false] at e1 e2 e3 e4 e5 e6 e7 e9 e11
  refine ⟨⟨by omega, fun _ => by omega, fun _ => by omega, fun _ => by omega, fun _ => by omega, fun _ => by omega, fun _ => by omega, fun _ => by omega, fun _ => by omega⟩, ?_⟩
  unfold BL
  omega
theorem bl8 {a b c d e v : Nat} : ∀ ro k, ro k = 8 → kd k = 257 → BL a b c d e v ro k → RFg kd ro k ∧ BL a b c d e v ro (k + 1) := by
  intro ro k er ek h
  obtain ⟨h1, h2, h3, h4, h5, h6⟩ := h
  have e1 := bl_step er 1
  have e2 := bl_step er 2
  have e3 := bl_step er 3
  have e4 := bl_step er 4
  have e5 := bl_step er 5
  have e6 := bl_step er 6
  have e7 := bl_step er 7
  have e9 := bl_step er 9
  have e11 := bl_step er 11
  simp only [Int.reduceEq, if_true, if_false, ite_true, ite_false] at e1 e2 e3 e4 e5 e6 e7 e9 e11
  refine ⟨⟨by omega, fun _ => by omega, fun _ => by omega, fun _ => by omega, fun _ => by omega, fun _ => by omega, fun _ => by omega, fun _ => by omega, fun _ => by omega⟩, ?_⟩
  unfold BL
  omega
theorem bl9 {a b d e v : Nat} : ∀ ro k, ro k = 9 → kd k = 256 → BL a b 1 d e v ro k → RFg kd ro k ∧ BL a b 0 d e v ro (k + 1) := by
  intro ro k er ek h
  obtain ⟨h1, h2, h3, h4, h5, h6⟩ := h
  have e1 := bl_step er 1
  have e2 := bl_step er 2
  have e3 := bl_step er 3
  have e4 := bl_step er 4
  have e5 := bl_step er 5
  have e6 := bl_step er 6
  have e7 := bl_step er 7
  have e9 := bl_step er 9
  have e11 := bl_step er 11
  simp only [Int.reduceEq, if_true, if_false, ite_true, ite_false] at e1 e2 e3 e4 e5 e6 e7 e9 e11
  refine ⟨⟨by omega, fun _ => by omega, fun _ => by omega, fun _ => by omega, fun _ => by omega, fun _ => by omega, fun _ => by omega, fun _ => by omega, fun _ => by omega⟩, ?_⟩
  unfold BL
  omega
theorem bl10 {a b c d e : Nat} : ∀ ro k, ro k = 10 → kd k = 256 → BL a b c d e 1 ro k → RFg kd ro k ∧ BL a b c d e 1 ro (k + 1) := by
  intro ro k er ek h
  obtain ⟨h1, h2, h3, h4, h5, h6⟩ := h
  have e1 := bl_step er 1
  have e2 := bl_step er 2
  have e3 := bl_step er 3
  have e4 := bl_step er 4
  have e5 := bl_step er 5
  have e6 := bl_step er 6
  have e7 := bl_step er 7
  have e9 := bl_step er 9
  have e11 := bl_step er 11
  simp only [Int.reduceEq, if_true, if_false, ite_true, ite_false] at e1 e2 e3 e4 e5 e6 e7 e9 e11
  refine ⟨⟨by omega, fun _ => by omega, fun _ => by omega, fun _ => by omega, fun _ => by omega, fun _ => by omega, fun _ => by omega, fun _ => by omega, fun _ => by omega⟩, ?_⟩
  unfold BL
  omega
theorem bl11 {a b c d v : Nat} : ∀ ro k, ro k = 11 → kd k = 256 → BL a b c d 1 v ro k → RFg kd ro k ∧ BL a b c d 0 v ro (k + 1) := by
  intro ro k er ek h
  obtain ⟨h1, h2, h3, h4, h5, h6⟩ := h
  have e1 := bl_step er 1
  have e2 := bl_step er 2
  have e3 := bl_step er 3
  have e4 := bl_step er 4
  have e5 := bl_step er 5
  have e6 := bl_step er 6
  have e7 := bl_step er 7
  have e9 := bl_step er 9
  have e11 := bl_step er 11
  simp only [Int.reduceEq, if_true, if_false, ite_true, ite_false] at e1 e2 e3 e4 e5 e6 e7 e9 e11
  refine ⟨⟨by omega, fun _ => by omega, fun _ => by omega, fun _ => by omega, fun _ => by omega, fun _ => by omega, fun _ => by omega, fun _ => by omega, fun _ => by omega⟩, ?_⟩
  unfold BL
  omega
def B0 : CP2 := BL 0 0 0 0 0 0
theorem B0.of {v : Nat} : ∀ ro k, BL 0 0 0 0 0 v ro k → B0 ro k := fun ro k h => ⟨h.1, h.2.1, h.2.2.1, h.2.2.2.1, h.2.2.2.2.1, Nat.zero_le _⟩
theorem lq_ward (i : Nat) : LQ kd B0 B0 i (gWard kd i) :=
  (LQ.tk0 (by decide) bl0).bd fun j => (LQ.tk0 (by decide) bl1).bd fun j => (LQ.tk0 (by decide) bl0).bd fun j => LQ.tk0 (by decide) bl5
theorem lq_proj (i : Nat) : LQ kd B0 B0 i (gProj kd i) :=
  (LQ.tk0 (by decide) bl0).bd fun j => (LQ.tk0 (by decide) bl2).bd fun j => (LQ.tk0 (by decide) bl0).bd fun j => (LQ.tk0 (by decide) bl6).bd fun j => (LQ.tk0 (by decide) bl0).bd fun j => (LQ.tk0 (by decide) bl9).bd fun j => (LQ.tk0 (by decide) bl0).bd fun j => LQ.tk0 (by decide) bl7
theorem lq_bud (i : Nat) : LQ kd B0 B0 i (gBud kd i) :=
  (LQ.tk0 (by decide) bl0).bd fun j => LQ.tk0 (by decide) bl8
theorem lq_lk : ∀ n i, LQ kd (BL 0 0 0 0 0 1) B0 i (gLk kd n i)
  | 0, i => LQ.ok0 B0.of
  | n + 1, i => by
    show LQ kd (BL 0 0 0 0 0 1) B0 i (if kd i = 256 then bndL (tkL kd 256 10 i) (gLk kd n) else .inr (i, [], []))
    split
    · exact (LQ.tk0 (B := BL 0 0 0 0 0 1) (by decide) bl10).bd (lq_lk n)
    · exact LQ.ok0 B0.of
theorem lq_vot (i : Nat) : LQ kd B0 B0 i (gVot kd i) := by
  refine (LQ.tk0 (B := B0) (by decide) bl0).bd fun j => (LQ.tk0 (B := BL 0 0 0 0 0 1) (by decide) bl3).bd fun j => ?_
  unfold gVot2
  split
  · exact (LQ.tk0 (B := BL 0 0 0 0 0 1) (by decide) bl0).bd fun j => (LQ.tk0 (B := BL 0 0 0 0 0 1) (by decide) bl10).bd (lq_lk 400)
  · exact LQ.ok0 B0.of
/-- the tokens of a test -/
theorem ts_seg {ro : Nat → Int} : ∀ {t : List Int} {i : Nat}, okS kd i t → SG ro i t → (∀ k, i ≤ k → k < i + t.length → RFg kd ro k) ∧ (∀ as, (1 ≤ as ∧ as ≤ 11) → cn ro as (i + t.length) = cn ro as i) ∧ nl ro 4 (i + t.length) = nl ro 4 i
  | [], i, _, _ => ⟨fun k h1 h2 => absurd h2 (by show ¬ k < i + 0; omega), fun _ _ => rfl, rfl⟩
  | r :: t, i, x, y => by
    obtain ⟨a1, a2, a3⟩ := ts_seg x.2 y.2
    have er := y.1
    have x1 := x.1
    unfold okR at x1
    have hl : i + (r :: t).length = i + 1 + t.length := by
      show i + (t.length + 1) = _
      omega
    rw [hl]
    refine ⟨fun k h1 h2 => ?_, fun as ha => ?_, ?_⟩
    · by_cases z : k = i
      · rw [z]
        exact ⟨by omega, fun _ => by omega, fun _ => by omega, fun _ => by omega, fun _ => by omega, fun _ => by omega, fun _ => by omega, fun _ => by omega, fun _ => by omega⟩
      · exact a1 k (by omega) h2
    · rw [a2 as ha, cnE (by omega)]
    · rw [a3, nlE (by omega)]
theorem lq_ban (i : Nat) : LQ kd B0 B0 i (l1 i (gBan kd i)) := by
  by_cases z : kd i = 309
  · by_cases z2 : kd (i + 1) = 256
    · by_cases z3 : kd (i + 1 + 1) = 310
      · rw [gBan_3 z z2 z3]
        have q := it_t (kd := kd) (i + 1 + 1 + 1)
        revert q
        cases gT kd 8 (i + 1 + 1 + 1) with
        | inl j => exact fun _ => trivial
        | inr r =>
          obtain ⟨j, s, t⟩ := r
          intro q
          obtain ⟨q1, q2, q3, q4⟩ := q
          refine ⟨?_, fun ro hs ha => ?_⟩
          · show j = i + ([4, 11, 0] ++ t).length
            rw [List.length_append]
            show j = i + (3 + t.length)
            omega
          · obtain ⟨h1, h2, h3, h4⟩ := hs
            have h2' : ro (i + 1) = 11 := h2
            have h3' : ro (i + 1 + 1) = 0 := h3
            have h4' : SG ro (i + 1 + 1 + 1) t := h4
            obtain ⟨a1, a2, a3⟩ := ts_seg q2 h4'
            rw [← q1] at a1 a2 a3
            obtain ⟨b1, b2, b3, b4, b5, b6⟩ := ha
            have s3 := bl0 (kd := kd) (c0 := kd (i + 1 + 1)) (a := 0) (b := 0) (c := 0) (d := 0) (e := 0) (v := 0) ro (i + 1 + 1) h3' rfl
            have s2 := bl11 (kd := kd) (a := 0) (b := 0) (c := 0) (d := 0) (v := 0) ro (i + 1) h2' z2
            have n1 : ∀ as, as ≠ 4 → cn ro as (i + 1) = cn ro as i := fun as h => cnE (by omega)
            have n4 : cn ro 4 (i + 1) = cn ro 4 i + 1 := cnS h1
            have p1 : BL 0 0 0 0 1 0 ro (i + 1) := ⟨by rw [n1 1 (by decide), n1 5 (by decide)]; exact b1, by rw [n1 2 (by decide), n1 6 (by decide)]; exact b2, by rw [n1 2 (by decide), n1 9 (by decide)]; exact b3, by rw [n1 2 (by decide), n1 7 (by decide)]; exact b4, by rw [n4, n1 11 (by decide)]; omega, Nat.zero_le _⟩
            obtain ⟨r2, p2⟩ := s2 p1
            obtain ⟨r3, p3⟩ := s3 p2
            have r1 : RFg kd ro i := ⟨by omega, fun _ => by omega, fun _ => by omega, fun _ => by omega, fun _ => by omega, fun _ => by omega, fun _ => by omega, fun _ => by omega, fun _ => by omega⟩
            refine ⟨fun k k1 k2 => ?_, ?_, ?_, fun b hb => ?_⟩
            · by_cases y1 : k = i
              · rw [y1]
                exact r1
              by_cases y2 : k = i + 1
              · rw [y2]
                exact r2
              by_cases y3 : k = i + 1 + 1
              · rw [y3]
                exact r3
              exact a1 k (by omega) k2
            · obtain ⟨c1, c2, c3, c4, c5, c6⟩ := p3
              exact ⟨by rw [a2 1 (by decide), a2 5 (by decide)]; exact c1, by rw [a2 2 (by decide), a2 6 (by decide)]; exact c2, by rw [a2 2 (by decide), a2 9 (by decide)]; exact c3, by rw [a2 2 (by decide), a2 7 (by decide)]; exact c4, by rw [a2 4 (by decide), a2 11 (by decide)]; exact c5, Nat.zero_le _⟩
            · rw [a3, nlE (show ro (i + 1 + 1) ≠ 4 by rw [h3']; decide), nlE (show ro (i + 1) ≠ 4 by rw [h2']; decide), nlS h1]
              rfl
            · rw [List.mem_singleton] at hb
              subst hb
              exact ⟨q4 [], fun o ho => q3 ro h4' o ho⟩
      · rw [gBan_2 z z2 z3]
        trivial
    · rw [gBan_1 z z2]
      trivial
  · rw [gBan_0 z]
    trivial
theorem lq_line (i : Nat) : LQ kd B0 B0 i (gLine kd i) := by
  unfold gLine
  split
  · exact lq_ward i
  split
  · exact lq_proj i
  split
  · exact lq_vot i
  split
  · exact lq_bud i
  split
  · exact lq_ban i
  · trivial
theorem lq_all : ∀ n i, LQ kd B0 B0 i (gAll kd n i)
  | 0, i => by
    show LQ kd B0 B0 i (if kd i = 260 then .inr (i, [], []) else .inl i)
    split
    · exact LQ.ok0 (fun _ _ h => h)
    · trivial
  | n + 1, i => by
    show LQ kd B0 B0 i (if kd i = 260 then .inr (i, [], []) else bndL (gLine kd i) fun i => bndL (tkL kd 59 0 i) (gAll kd n))
    split
    · exact LQ.ok0 (fun _ _ h => h)
    · exact (lq_line i).bd fun j => (LQ.tk0 (B := B0) (by decide) bl0).bd (lq_all n)
/-- the roles as a function -/
def roF (R : List Int) (k : Nat) : Int := R.getD k 0
theorem getD_pre {r : Int} {R : List Int} : ∀ pre : List Int, (pre ++ r :: R).getD pre.length 0 = r
  | [] => rfl
  | _ :: p => getD_pre p
theorem sg_roF : ∀ (R pre : List Int), SG (roF (pre ++ R)) pre.length R
  | [], _ => trivial
  | r :: R, pre => by
    refine ⟨?_, ?_⟩
    · exact getD_pre pre
    · have := sg_roF R (pre ++ [r])
      rw [List.append_assoc, List.length_append] at this
      exact this
/-- all that the grammar says of a list -/
theorem g_list {E : Nat} {Bs : List (Nat × List Op)} {R : List Int} (h : gAll kd 400 0 = .inr (E, Bs, R)) : E = R.length ∧ (∀ k, k < E → RFg kd (roF R) k) ∧ B0 (roF R) E ∧ nl (roF R) 4 E = Bs.map Prod.fst ∧ ∀ b ∈ Bs, tu b.2 [] [true] ∧ ∀ o ∈ b.2, AR (roF R) E o := by
  have q := lq_all (kd := kd) 400 0
  rw [h] at q
  obtain ⟨q1, q2⟩ := q
  have sg := sg_roF R []
  obtain ⟨a1, a2, a3, a4⟩ := q2 (roF R) sg ⟨rfl, rfl, rfl, rfl, rfl, Nat.zero_le _⟩
  exact ⟨by omega, fun k hk => a1 k (Nat.zero_le _) hk, a2, a3, a4⟩
end
