/-! ===== names and numbers of the law's lines, looked at ===== -/
def nms (c : Int) : Nat → List Int
  | 0 => []
  | n + 1 => nms c n ++ [nmv c (n : Int)]
theorem nms_len {c : Int} : ∀ n, (nms c n).length = n
  | 0 => rfl
  | n + 1 => by
    show (nms c n ++ [nmv c (n : Int)]).length = n + 1
    rw [List.length_append, nms_len n]
    rfl
theorem fiv_ap2 {v : Int} : ∀ {a b : List Int} {k : Int}, 0 ≤ k → fiv v (a ++ b) k = if fiv v a k = -1 then fiv v b (k + (a.length : Int)) else fiv v a k
  | [], b, k, _ => by
    show fiv v b k = if (-1 : Int) = -1 then fiv v b (k + 0) else -1
    rw [if_pos rfl, Int.add_zero]
  | x :: a, b, k, hk => by
    show (if x = v then k else fiv v (a ++ b) (k + 1)) = if (if x = v then k else fiv v a (k + 1)) = -1 then fiv v b (k + ((x :: a).length : Int)) else (if x = v then k else fiv v a (k + 1))
    by_cases e : x = v
    · rw [if_pos e, if_pos e, if_neg (by omega)]
    · rw [if_neg e, if_neg e, fiv_ap2 (by omega)]
      have : k + 1 + (a.length : Int) = k + ((x :: a).length : Int) := by simp; omega
      rw [this]
theorem fiv_nms {c i : Int} (h0 : 0 ≤ i) : ∀ n : Nat, fiv (nmv c i) (nms c n) 0 = if i < (n : Int) then i else -1
  | 0 => by rw [if_neg (by omega)]; rfl
  | n + 1 => by
    show fiv (nmv c i) (nms c n ++ [nmv c (n : Int)]) 0 = _
    rw [fiv_ap2 (by decide), fiv_nms h0 n, nms_len]
    by_cases z : i < (n : Int)
    · rw [if_pos z, if_neg (by omega), if_pos (by omega)]
    · rw [if_neg z, if_pos rfl]
      show (if nmv c (n : Int) = nmv c i then 0 + (n : Int) else -1) = _
      by_cases y : i = (n : Int)
      · rw [if_pos (by rw [y]), if_pos (by omega)]; omega
      · rw [if_neg (by unfold nmv; omega), if_neg (by omega)]
def NM (ro va : Nat → Int) (j n1 n2 n3 : Nat) : Prop := (nl ro 1 j).map va = nms 119 n1 ∧ (nl ro 2 j).map va = nms 112 n2 ∧ (nl ro 3 j).map va = nms 118 n3
def RnF (ro va : Nat → Int) (j : Nat) (f : TT) (n : Nat) (f2 : TT) : Prop := ∀ m, run ro va (n + m) j f = run ro va m (j + n) f2
section
variable {ro va : Nat → Int} {j n1 n2 n3 : Nat} {f f1 f2 : TT}
theorem nl_s {as : Int} : nl ro as (j + 1) = nl ro as j ++ (if ro j = as then [j] else []) := rfl
theorem RnF.rf : RnF ro va j f 0 f := fun m => by rw [Nat.zero_add, Nat.add_zero]
theorem RnF.tr {a b : Nat} (x : RnF ro va j f a f1) (y : RnF ro va (j + a) f1 b f2) : RnF ro va j f (a + b) f2 := fun m => by
  rw [Nat.add_assoc, x (b + m), y m, Nat.add_assoc]
theorem RnF.one (h : stp ro va f j = (0, f2)) : RnF ro va j f 1 f2 := fun m => by
  rw [Nat.add_comm 1 m]
  show (if (stp ro va f j).1 = 0 then run ro va m (j + 1) (stp ro va f j).2 else _) = _
  rw [h]
  rfl
theorem NM.o (h : NM ro va j n1 n2 n3) (r : ¬ ro j = 1 ∧ ¬ ro j = 2 ∧ ¬ ro j = 3) : NM ro va (j + 1) n1 n2 n3 := by
  unfold NM
  rw [nl_s, nl_s, nl_s, if_neg r.1, if_neg r.2.1, if_neg r.2.2, List.append_nil, List.append_nil, List.append_nil]
  exact h
theorem NM.t1 (h : NM ro va j n1 n2 n3) {i : Int} (e : va j = nmv 119 i) (h0 : 0 ≤ i) : tol ro va 1 j = if i < (n1 : Int) then i else -1 := by
  unfold tol
  rw [h.1, e, fiv_nms h0]
theorem NM.t2 (h : NM ro va j n1 n2 n3) {i : Int} (e : va j = nmv 112 i) (h0 : 0 ≤ i) : tol ro va 2 j = if i < (n2 : Int) then i else -1 := by
  unfold tol
  rw [h.2.1, e, fiv_nms h0]
theorem NM.t3 (h : NM ro va j n1 n2 n3) {i : Int} (e : va j = nmv 118 i) (h0 : 0 ≤ i) : tol ro va 3 j = if i < (n3 : Int) then i else -1 := by
  unfold tol
  rw [h.2.2, e, fiv_nms h0]
theorem p0 (r : ro j = 0) : RnF ro va j f 1 f := RnF.one (by unfold stp; rw [r]; rfl)
theorem p1 (h : NM ro va j n1 n2 n3) (r : ro j = 1) (e : va j = nmv 119 (n1 : Int)) (c : f 0 0 = (n1 : Int)) (hn : n1 < 4) : RnF ro va j f 1 (su f 0 0 ((n1 + 1 : Nat) : Int)) ∧ NM ro va (j + 1) (n1 + 1) n2 n3 := by
  have t := h.t1 e (by omega)
  rw [if_neg (by omega)] at t
  refine ⟨RnF.one ?_, ?_⟩
  · unfold stp
    rw [if_pos r, if_pos t, if_neg (by omega), c]
    rfl
  · unfold NM
    rw [nl_s, nl_s, nl_s, if_pos r, if_neg (by omega), if_neg (by omega), List.append_nil, List.append_nil, List.map_append, h.1]
    refine ⟨?_, h.2.1, h.2.2⟩
    show nms 119 n1 ++ [va j] = _
    rw [e]; rfl
theorem p2 (h : NM ro va j n1 n2 n3) (r : ro j = 2) (e : va j = nmv 112 (n2 : Int)) (c : f 1 0 = (n2 : Int)) (hn : n2 < 12) : RnF ro va j f 1 (su f 1 0 ((n2 + 1 : Nat) : Int)) ∧ NM ro va (j + 1) n1 (n2 + 1) n3 := by
  have t := h.t2 e (by omega)
  rw [if_neg (by omega)] at t
  refine ⟨RnF.one ?_, ?_⟩
  · unfold stp
    rw [if_neg (by omega), if_pos r, if_pos t, if_neg (by omega), c]
    rfl
  · unfold NM
    rw [nl_s, nl_s, nl_s, if_pos r, if_neg (by omega), if_neg (by omega), List.append_nil, List.append_nil, List.map_append, h.2.1]
    refine ⟨h.1, ?_, h.2.2⟩
    show nms 112 n2 ++ [va j] = _
    rw [e]; rfl
theorem p3 (h : NM ro va j n1 n2 n3) (r : ro j = 3) (e : va j = nmv 118 (n3 : Int)) (c : f 2 0 = (n3 : Int)) (hn : n3 < 12) : RnF ro va j f 1 (su f 2 0 ((n3 + 1 : Nat) : Int)) ∧ NM ro va (j + 1) n1 n2 (n3 + 1) := by
  have t := h.t3 e (by omega)
  rw [if_neg (by omega)] at t
  refine ⟨RnF.one ?_, ?_⟩
  · unfold stp
    rw [if_neg (by omega), if_neg (by omega), if_pos r, if_pos t, if_neg (by omega), c]
    rfl
  · unfold NM
    rw [nl_s, nl_s, nl_s, if_pos r, if_neg (by omega), if_neg (by omega), List.append_nil, List.append_nil, List.map_append, h.2.2]
    refine ⟨h.1, h.2.1, ?_⟩
    show nms 118 n3 ++ [va j] = _
    rw [e]; rfl
theorem p4 (r : ro j = 4) (hn : ¬ f 3 0 = 12) : RnF ro va j f 1 (su f 3 0 (f 3 0 + 1)) := RnF.one (by unfold stp; rw [r]; show (if f 3 0 = 12 then _ else _) = _; rw [if_neg hn])
theorem p5 (r : ro j = 5) (hn : 0 ≤ va j ∧ va j ≤ 12) : RnF ro va j f 1 (su f 4 (f 0 0 - 1) (va j)) := RnF.one (by unfold stp; rw [r]; show (if 0 ≤ va j ∧ va j ≤ 12 then _ else _) = _; rw [if_pos hn])
theorem p6 (r : ro j = 6) (hn : 1 ≤ va j ∧ va j ≤ 999) : RnF ro va j f 1 (su f 9 (f 1 0 - 1) (va j)) := RnF.one (by unfold stp; rw [r]; show (if 1 ≤ va j ∧ va j ≤ 999 then _ else _) = _; rw [if_pos hn])
theorem p7 (r : ro j = 7) (hn : 0 ≤ va j ∧ va j ≤ 50) : RnF ro va j f 1 (su f 6 (f 1 0 - 1) (va j)) := RnF.one (by unfold stp; rw [r]; show (if 0 ≤ va j ∧ va j ≤ 50 then _ else _) = _; rw [if_pos hn])
theorem p8 (r : ro j = 8) (hn : va j ≤ 9999) : RnF ro va j f 1 (su f 8 0 (va j)) := RnF.one (by unfold stp; rw [r]; show (if va j ≤ 9999 then _ else _) = _; rw [if_pos hn])
theorem p9 {i : Int} (h : NM ro va j n1 n2 n3) (r : ro j = 9) (e : va j = nmv 119 i) (h0 : 0 ≤ i) (h1 : i < (n1 : Int)) : RnF ro va j f 1 (su f 5 (f 1 0 - 1) i) := RnF.one (by
  have t := h.t1 e h0
  rw [if_pos h1] at t
  unfold stp
  rw [r]
  show (if tol ro va 1 j = -1 then _ else (_, su f 5 (f 1 0 - 1) (tol ro va 1 j))) = _
  rw [t, if_neg (by omega)])
theorem p10 {i : Int} (h : NM ro va j n1 n2 n3) (r : ro j = 10) (e : va j = nmv 112 i) (h0 : 0 ≤ i) (h1 : i < (n2 : Int)) (hz : ¬ f 10 (12 * (f 2 0 - 1) + i) = 1) : RnF ro va j f 1 (su f 10 (12 * (f 2 0 - 1) + i) 1) := RnF.one (by
  have t := h.t2 e h0
  rw [if_pos h1] at t
  unfold stp
  rw [r]
  show (if tol ro va 2 j = -1 then _ else if f 10 (12 * (f 2 0 - 1) + tol ro va 2 j) = 1 then _ else (_, su f 10 (12 * (f 2 0 - 1) + tol ro va 2 j) 1)) = _
  rw [t, if_neg (by omega), if_neg hz])
theorem p11 {i : Int} (h : NM ro va j n1 n2 n3) (r : ro j = 11) (e : va j = nmv 112 i) (h0 : 0 ≤ i) (h1 : i < (n2 : Int)) : RnF ro va j f 1 (su f 7 (f 3 0 - 1) i) := RnF.one (by
  have t := h.t2 e h0
  rw [if_pos h1] at t
  unfold stp
  rw [r]
  show (if tol ro va 2 j = -1 then _ else (_, su f 7 (f 3 0 - 1) (tol ro va 2 j))) = _
  rw [t, if_neg (by omega)])
theorem p12 {i : Int} (h : NM ro va j n1 n2 n3) (r : ro j = 12) (e : va j = nmv 112 i) (h0 : 0 ≤ i) (h1 : i < (n2 : Int)) : RnF ro va j f 1 (su f 11 (j : Int) i) := RnF.one (by
  have t := h.t2 e h0
  rw [if_pos h1] at t
  unfold stp
  rw [r]
  show (if tol ro va 2 j = -1 then _ else (_, su f 11 (j : Int) (tol ro va 2 j))) = _
  rw [t, if_neg (by omega)])
theorem p13 {i : Int} (h : NM ro va j n1 n2 n3) (r : ro j = 13) (e : va j = nmv 118 i) (h0 : 0 ≤ i) (h1 : i < (n3 : Int)) : RnF ro va j f 1 (su f 11 (j : Int) i) := RnF.one (by
  have t := h.t3 e h0
  rw [if_pos h1] at t
  unfold stp
  rw [r]
  show (if tol ro va 3 j = -1 then _ else (_, su f 11 (j : Int) (tol ro va 3 j))) = _
  rw [t, if_neg (by omega)])
theorem p14 (r : ro j = 14) : RnF ro va j f 1 (su f 11 (j : Int) (va j)) := RnF.one (by unfold stp; rw [r]; rfl)
/-- tokens of a test: their roles, values and what they mean -/
def VM (n2 n3 : Nat) : List Int → List Int → List Int → Prop
  | [], [], [] => True
  | r :: R, v :: V, m :: M => ((r = 0 ∧ m = 0) ∨ (r = 12 ∧ v = nmv 112 m ∧ 0 ≤ m ∧ m < (n2 : Int)) ∨ (r = 13 ∧ v = nmv 118 m ∧ 0 ≤ m ∧ m < (n3 : Int)) ∨ (r = 14 ∧ v = m)) ∧ VM n2 n3 R V M
  | _, _, _ => False
/-- what tokens mean, the first j of them looked at -/
def MF (ro va : Nat → Int) (f : TT) (j : Nat) : Prop := ∀ k : Nat, f 11 (k : Int) = if k < j then (if ro k = 12 then tol ro va 2 k else if ro k = 13 then tol ro va 3 k else if ro k = 14 then va k else 0) else 0
theorem MF.keep (x : MF ro va f j) (r : ¬ ro j = 12 ∧ ¬ ro j = 13 ∧ ¬ ro j = 14) (e : ∀ i, f2 11 i = f 11 i) : MF ro va f2 (j + 1) := fun k => by
  rw [e, x k]
  by_cases z : k < j
  · rw [if_pos z, if_pos (show k < j + 1 by omega)]
  · rw [if_neg z]
    by_cases y : k = j
    · subst y
      rw [if_pos (show k < k + 1 by omega), if_neg r.1, if_neg r.2.1, if_neg r.2.2]
    · rw [if_neg (by omega)]
theorem MF.put {m : Int} (x : MF ro va f j) (r : (if ro j = 12 then tol ro va 2 j else if ro j = 13 then tol ro va 3 j else if ro j = 14 then va j else 0) = m) : MF ro va (su f 11 (j : Int) m) (j + 1) := fun k => by
  by_cases y : k = j
  · subst y
    rw [su_eq, if_pos (show k < k + 1 by omega), r]
  · rw [su_ne (by omega), x k]
    by_cases z : k < j
    · rw [if_pos z, if_pos (show k < j + 1 by omega)]
    · rw [if_neg z, if_neg (by omega)]
theorem MF.go1 (x : MF ro va f j) (h : (stp ro va f j).1 = 0) : MF ro va (stp ro va f j).2 (j + 1) := by
  unfold stp at h ⊢
  by_cases r1 : ro j = 1
  · rw [if_pos r1] at h ⊢
    split at h
    · rename_i z
      rw [if_pos z]
      split at h
      · exact (by simp at h)
      · rename_i y
        rw [if_neg y]
        refine x.keep (by omega) (fun i => ?_)
        dsimp only
        exact su_ne (by omega)
    · exact (by simp at h)
  rw [if_neg r1] at h ⊢
  by_cases r2 : ro j = 2
  · rw [if_pos r2] at h ⊢
    split at h
    · rename_i z
      rw [if_pos z]
      split at h
      · exact (by simp at h)
      · rename_i y
        rw [if_neg y]
        refine x.keep (by omega) (fun i => ?_)
        dsimp only
        exact su_ne (by omega)
    · exact (by simp at h)
  rw [if_neg r2] at h ⊢
  by_cases r3 : ro j = 3
  · rw [if_pos r3] at h ⊢
    split at h
    · rename_i z
      rw [if_pos z]
      split at h
      · exact (by simp at h)
      · rename_i y
        rw [if_neg y]
        refine x.keep (by omega) (fun i => ?_)
        dsimp only
        exact su_ne (by omega)
    · exact (by simp at h)
  rw [if_neg r3] at h ⊢
  by_cases r4 : ro j = 4
  · rw [if_pos r4] at h ⊢
    split at h
    · exact (by simp at h)
    · rename_i y
      rw [if_neg y]
      refine x.keep (by omega) (fun i => ?_)
      dsimp only
      exact su_ne (by omega)
  rw [if_neg r4] at h ⊢
  by_cases r5 : ro j = 5
  · rw [if_pos r5] at h ⊢
    split at h
    · rename_i y
      rw [if_pos y]
      refine x.keep (by omega) (fun i => ?_)
      dsimp only
      exact su_ne (by omega)
    · exact (by simp at h)
  rw [if_neg r5] at h ⊢
  by_cases r6 : ro j = 6
  · rw [if_pos r6] at h ⊢
    split at h
    · rename_i y
      rw [if_pos y]
      refine x.keep (by omega) (fun i => ?_)
      dsimp only
      exact su_ne (by omega)
    · exact (by simp at h)
  rw [if_neg r6] at h ⊢
  by_cases r7 : ro j = 7
  · rw [if_pos r7] at h ⊢
    split at h
    · rename_i y
      rw [if_pos y]
      refine x.keep (by omega) (fun i => ?_)
      dsimp only
      exact su_ne (by omega)
    · exact (by simp at h)
  rw [if_neg r7] at h ⊢
  by_cases r8 : ro j = 8
  · rw [if_pos r8] at h ⊢
    split at h
    · rename_i y
      rw [if_pos y]
      refine x.keep (by omega) (fun i => ?_)
      dsimp only
      exact su_ne (by omega)
    · exact (by simp at h)
  rw [if_neg r8] at h ⊢
  by_cases r9 : ro j = 9
  · rw [if_pos r9] at h ⊢
    split at h
    · exact (by simp at h)
    · rename_i y
      rw [if_neg y]
      refine x.keep (by omega) (fun i => ?_)
      dsimp only
      exact su_ne (by omega)
  rw [if_neg r9] at h ⊢
  by_cases r10 : ro j = 10
  · rw [if_pos r10] at h ⊢
    split at h
    · exact (by simp at h)
    · rename_i y
      rw [if_neg y]
      split at h
      · exact (by simp at h)
      · rename_i w
        rw [if_neg w]
        refine x.keep (by omega) (fun i => ?_)
        dsimp only
        exact su_ne (by omega)
  rw [if_neg r10] at h ⊢
  by_cases r11 : ro j = 11
  · rw [if_pos r11] at h ⊢
    split at h
    · exact (by simp at h)
    · rename_i y
      rw [if_neg y]
      refine x.keep (by omega) (fun i => ?_)
      dsimp only
      exact su_ne (by omega)
  rw [if_neg r11] at h ⊢
  by_cases r12 : ro j = 12
  · rw [if_pos r12] at h ⊢
    split at h
    · exact (by simp at h)
    · rename_i y
      rw [if_neg y]
      exact x.put (by rw [if_pos r12])
  rw [if_neg r12] at h ⊢
  by_cases r13 : ro j = 13
  · rw [if_pos r13] at h ⊢
    split at h
    · exact (by simp at h)
    · rename_i y
      rw [if_neg y]
      exact x.put (by rw [if_neg r12, if_pos r13])
  rw [if_neg r13] at h ⊢
  by_cases r14 : ro j = 14
  · rw [if_pos r14] at h ⊢
    exact x.put (by rw [if_neg r12, if_neg r13, if_pos r14])
  rw [if_neg r14] at h ⊢
  exact x.keep ⟨r12, r13, r14⟩ (fun i => rfl)
theorem MF.goo : ∀ {n : Nat} {j : Nat} {f : TT}, MF ro va f j → (run ro va n j f).1 = 0 → MF ro va (run ro va n j f).2.2 (j + n)
  | 0, j, f, x, _ => x
  | n + 1, j, f, x, h => by
    have h' : (if (stp ro va f j).1 = 0 then run ro va n (j + 1) (stp ro va f j).2 else ((stp ro va f j).1, j, f)).1 = 0 := h
    show MF ro va (if (stp ro va f j).1 = 0 then run ro va n (j + 1) (stp ro va f j).2 else ((stp ro va f j).1, j, f)).2.2 _
    by_cases z : (stp ro va f j).1 = 0
    · rw [if_pos z] at h' ⊢
      have := MF.goo (x.go1 z) h'
      rw [show j + (n + 1) = j + 1 + n by omega]
      exact this
    · rw [if_neg z] at h'
      exact absurd h' z
theorem seg_run {n1 n2 n3 : Nat} : ∀ {R V M : List Int} {j : Nat} {f : TT}, VM n2 n3 R V M → KD ro j R → KD va j V → NM ro va j n1 n2 n3 → ∃ f2, RnF ro va j f R.length f2 ∧ NM ro va (j + R.length) n1 n2 n3 ∧ (∀ k i, k ≠ 11 → f2 k i = f k i)
  | [], [], [], j, f, _, _, _, h => ⟨f, RnF.rf, h, fun _ _ _ => rfl⟩
  | r :: R, v :: V, m :: M, j, f, hv, kr, kv, h => by
    obtain ⟨c, hv'⟩ := hv
    obtain ⟨kr1, kr2⟩ := kr
    obtain ⟨kv1, kv2⟩ := kv
    have hN : NM ro va (j + 1) n1 n2 n3 := h.o (by omega)
    have : ∃ f1, RnF ro va j f 1 f1 ∧ ∀ k i, k ≠ 11 → f1 k i = f k i := by
      rcases c with ⟨a, -⟩ | ⟨a, b, b0, b1⟩ | ⟨a, b, b0, b1⟩ | ⟨a, -⟩
      · exact ⟨f, p0 (kr1.trans a), fun _ _ _ => rfl⟩
      · exact ⟨_, p12 h (kr1.trans a) (kv1.trans b) b0 b1, fun k i hk => su_ne (fun z => hk z.1)⟩
      · exact ⟨_, p13 h (kr1.trans a) (kv1.trans b) b0 b1, fun k i hk => su_ne (fun z => hk z.1)⟩
      · exact ⟨_, p14 (kr1.trans a), fun k i hk => su_ne (fun z => hk z.1)⟩
    obtain ⟨f1, x1, e1⟩ := this
    obtain ⟨f2, x2, hN2, e2⟩ := seg_run (f := f1) hv' kr2 kv2 hN
    refine ⟨f2, ?_, ?_, fun k i hk => (e2 k i hk).trans (e1 k i hk)⟩
    · have := x1.tr x2
      rw [show 1 + R.length = (r :: R).length by simp; omega] at this
      exact this
    · rw [show j + (r :: R).length = j + 1 + R.length by simp; omega]
      exact hN2
  | [], _ :: _, _, _, _, h, _, _, _ => h.elim
  | [], [], _ :: _, _, _, h, _, _, _ => h.elim
  | _ :: _, [], _, _, _, h, _, _, _ => h.elim
  | _ :: _, _ :: _, [], _, _, h, _, _, _ => h.elim
theorem seg_mean {n1 n2 n3 E : Nat} {f : TT} (x : MF ro va f E) : ∀ {R V M : List Int} {j : Nat}, VM n2 n3 R V M → KD ro j R → KD va j V → NM ro va j n1 n2 n3 → j + R.length ≤ E → KD (fun k => f 11 (k : Int)) j M
  | [], [], [], j, _, _, _, _, _ => trivial
  | r :: R, v :: V, m :: M, j, hv, kr, kv, h, hE => by
    obtain ⟨c, hv'⟩ := hv
    obtain ⟨kr1, kr2⟩ := kr
    obtain ⟨kv1, kv2⟩ := kv
    have hN : NM ro va (j + 1) n1 n2 n3 := h.o (by omega)
    have hl : (r :: R).length = R.length + 1 := by simp
    refine ⟨?_, seg_mean x hv' kr2 kv2 hN (by omega)⟩
    show f 11 (j : Int) = m
    rw [x j, if_pos (by omega)]
    rcases c with ⟨a, b⟩ | ⟨a, b, b0, b1⟩ | ⟨a, b, b0, b1⟩ | ⟨a, b⟩
    · rw [if_neg (by omega), if_neg (by omega), if_neg (by omega), b]
    · rw [if_pos (by omega), h.t2 (kv1.trans b) b0, if_pos b1]
    · rw [if_neg (by omega), if_pos (by omega), h.t3 (kv1.trans b) b0, if_pos b1]
    · rw [if_neg (by omega), if_neg (by omega), if_pos (by omega), kv1, b]
  | [], _ :: _, _, _, h, _, _, _, _ => h.elim
  | [], [], _ :: _, _, h, _, _, _, _ => h.elim
  | _ :: _, [], _, _, h, _, _, _, _ => h.elim
  | _ :: _, _ :: _, [], _, h, _, _, _, _ => h.elim
end
