/-! ===== names and numbers looked at, as a function ===== -/
/-- how many tokens of a role there are ahead of a token; which ones -/
def cn (ro : Nat → Int) (as : Int) : Nat → Nat
  | 0 => 0
  | j + 1 => cn ro as j + (if ro j = as then 1 else 0)
def nl (ro : Nat → Int) (as : Int) : Nat → List Nat
  | 0 => []
  | j + 1 => nl ro as j ++ (if ro j = as then [j] else [])
theorem nl_len {ro : Nat → Int} {as : Int} : ∀ j, (nl ro as j).length = cn ro as j
  | 0 => rfl
  | j + 1 => by
    show (nl ro as j ++ (if ro j = as then [j] else [])).length = cn ro as j + (if ro j = as then 1 else 0)
    rw [List.length_append, nl_len j]
    split <;> rfl
theorem nl_lt {ro : Nat → Int} {as : Int} : ∀ {j k : Nat}, k ∈ nl ro as j → k < j ∧ ro k = as
  | 0, k, h => by
    have h' : k ∈ ([] : List Nat) := h
    cases h'
  | j + 1, k, h => by
    have h' : k ∈ nl ro as j ++ (if ro j = as then [j] else []) := h
    rcases List.mem_append.1 h' with y | y
    · have := nl_lt y
      exact ⟨by omega, this.2⟩
    · split at y
      · rename_i z
        rw [List.mem_singleton] at y
        subst y
        exact ⟨by omega, z⟩
      · cases y
/-- the number of the first of these values -/
def fiv (v : Int) : List Int → Int → Int
  | [], _ => -1
  | x :: r, n => if x = v then n else fiv v r (n + 1)
theorem fiv_rg {v : Int} : ∀ {L : List Int} {n : Int}, 0 ≤ n → fiv v L n = -1 ∨ (n ≤ fiv v L n ∧ fiv v L n < n + (L.length : Int))
  | [], _, _ => Or.inl rfl
  | x :: r, n, hn => by
    show (if x = v then n else fiv v r (n + 1)) = -1 ∨ (n ≤ (if x = v then n else fiv v r (n + 1)) ∧ (if x = v then n else fiv v r (n + 1)) < n + ((r.length + 1 : Nat) : Int))
    split
    · omega
    · have := fiv_rg (v := v) (L := r) (n := n + 1) (by omega)
      omega
/-- the number of a name among those told as something -/
def tol (ro va : Nat → Int) (as : Int) (j : Nat) : Int := fiv (va j) ((nl ro as j).map va) 0
theorem tol_rg {ro va : Nat → Int} {as : Int} {j : Nat} : tol ro va as j = -1 ∨ (0 ≤ tol ro va as j ∧ tol ro va as j < (cn ro as j : Int)) := by
  have := fiv_rg (v := va j) (L := (nl ro as j).map va) (n := 0) (Int.le_refl _)
  rw [List.length_map, nl_len] at this
  unfold tol
  omega
def stp (ro va : Nat → Int) (f : TT) (j : Nat) : Int × TT :=
  if ro j = 1 then (if tol ro va 1 j = -1 then (if f 0 0 = 4 then (4, f) else (0, su f 0 0 (f 0 0 + 1))) else (2, f))
  else if ro j = 2 then (if tol ro va 2 j = -1 then (if f 1 0 = 12 then (4, f) else (0, su f 1 0 (f 1 0 + 1))) else (2, f))
  else if ro j = 3 then (if tol ro va 3 j = -1 then (if f 2 0 = 12 then (4, f) else (0, su f 2 0 (f 2 0 + 1))) else (2, f))
  else if ro j = 4 then (if f 3 0 = 12 then (4, f) else (0, su f 3 0 (f 3 0 + 1)))
  else if ro j = 5 then (if 0 ≤ va j ∧ va j ≤ 12 then (0, su f 4 (f 0 0 - 1) (va j)) else (5, f))
  else if ro j = 6 then (if 1 ≤ va j ∧ va j ≤ 999 then (0, su f 9 (f 1 0 - 1) (va j)) else (5, f))
  else if ro j = 7 then (if 0 ≤ va j ∧ va j ≤ 50 then (0, su f 6 (f 1 0 - 1) (va j)) else (5, f))
  else if ro j = 8 then (if va j ≤ 9999 then (0, su f 8 0 (va j)) else (5, f))
  else if ro j = 9 then (if tol ro va 1 j = -1 then (3, f) else (0, su f 5 (f 1 0 - 1) (tol ro va 1 j)))
  else if ro j = 10 then (if tol ro va 2 j = -1 then (3, f) else if f 10 (12 * (f 2 0 - 1) + tol ro va 2 j) = 1 then (5, f) else (0, su f 10 (12 * (f 2 0 - 1) + tol ro va 2 j) 1))
  else if ro j = 11 then (if tol ro va 2 j = -1 then (3, f) else (0, su f 7 (f 3 0 - 1) (tol ro va 2 j)))
  else if ro j = 12 then (if tol ro va 2 j = -1 then (3, f) else (0, su f 11 (j : Int) (tol ro va 2 j)))
  else if ro j = 13 then (if tol ro va 3 j = -1 then (3, f) else (0, su f 11 (j : Int) (tol ro va 3 j)))
  else if ro j = 14 then (0, su f 11 (j : Int) (va j))
  else (0, f)
/-- so many tokens from one on: the error, its token, what is told then -/
def run (ro va : Nat → Int) : Nat → Nat → TT → Int × Nat × TT
  | 0, j, f => (0, j, f)
  | n + 1, j, f => if (stp ro va f j).1 = 0 then run ro va n (j + 1) (stp ro va f j).2 else ((stp ro va f j).1, j, f)
def FI (ro va : Nat → Int) (f : TT) (j : Nat) : Prop := (f 0 0 = (cn ro 1 j : Int) ∧ cn ro 1 j ≤ 4) ∧ (f 1 0 = (cn ro 2 j : Int) ∧ cn ro 2 j ≤ 12) ∧ (f 2 0 = (cn ro 3 j : Int) ∧ cn ro 3 j ≤ 12) ∧ (f 3 0 = (cn ro 4 j : Int) ∧ cn ro 4 j ≤ 12) ∧ (∀ i : Nat, i < cn ro 5 j → 0 ≤ f 4 (i : Int) ∧ f 4 (i : Int) ≤ 12) ∧ (∀ i : Nat, i < cn ro 6 j → 1 ≤ f 9 (i : Int) ∧ f 9 (i : Int) ≤ 999) ∧ (∀ i : Nat, i < cn ro 9 j → 0 ≤ f 5 (i : Int) ∧ f 5 (i : Int) < f 0 0) ∧ (∀ i : Nat, i < cn ro 7 j → 0 ≤ f 6 (i : Int) ∧ f 6 (i : Int) ≤ 50) ∧ (∀ i : Nat, i < cn ro 11 j → 0 ≤ f 7 (i : Int) ∧ f 7 (i : Int) < f 1 0) ∧ (0 ≤ f 8 0 ∧ f 8 0 ≤ 9999) ∧ (∀ i, f 10 i = 0 ∨ f 10 i = 1) ∧ (∀ v p, 0 ≤ v → 0 ≤ p → v < 12 → p < 12 → (f 2 0 ≤ v ∨ f 1 0 ≤ p) → f 10 (12 * v + p) = 0) ∧ (∀ k : Nat, k < j → ro k = 12 → 0 ≤ f 11 (k : Int) ∧ f 11 (k : Int) < f 1 0) ∧ (∀ k : Nat, k < j → ro k = 13 → 0 ≤ f 11 (k : Int) ∧ f 11 (k : Int) < f 2 0) ∧ (∀ k : Nat, k < j → ro k = 14 → f 11 (k : Int) = va k) ∧ (∀ k : Nat, j ≤ k → f 11 (k : Int) = 0)
theorem FI.c1 {ro va : Nat → Int} {f : TT} {j : Nat} (x : FI ro va f j) : f 0 0 = (cn ro 1 j : Int) ∧ cn ro 1 j ≤ 4 := x.1
theorem FI.c2 {ro va : Nat → Int} {f : TT} {j : Nat} (x : FI ro va f j) : f 1 0 = (cn ro 2 j : Int) ∧ cn ro 2 j ≤ 12 := x.2.1
theorem FI.c3 {ro va : Nat → Int} {f : TT} {j : Nat} (x : FI ro va f j) : f 2 0 = (cn ro 3 j : Int) ∧ cn ro 3 j ≤ 12 := x.2.2.1
theorem FI.c4 {ro va : Nat → Int} {f : TT} {j : Nat} (x : FI ro va f j) : f 3 0 = (cn ro 4 j : Int) ∧ cn ro 4 j ≤ 12 := x.2.2.2.1
theorem FI.r5 {ro va : Nat → Int} {f : TT} {j : Nat} (x : FI ro va f j) : ∀ i : Nat, i < cn ro 5 j → 0 ≤ f 4 (i : Int) ∧ f 4 (i : Int) ≤ 12 := x.2.2.2.2.1
theorem FI.r6 {ro va : Nat → Int} {f : TT} {j : Nat} (x : FI ro va f j) : ∀ i : Nat, i < cn ro 6 j → 1 ≤ f 9 (i : Int) ∧ f 9 (i : Int) ≤ 999 := x.2.2.2.2.2.1
theorem FI.r9 {ro va : Nat → Int} {f : TT} {j : Nat} (x : FI ro va f j) : ∀ i : Nat, i < cn ro 9 j → 0 ≤ f 5 (i : Int) ∧ f 5 (i : Int) < f 0 0 := x.2.2.2.2.2.2.1
theorem FI.r7 {ro va : Nat → Int} {f : TT} {j : Nat} (x : FI ro va f j) : ∀ i : Nat, i < cn ro 7 j → 0 ≤ f 6 (i : Int) ∧ f 6 (i : Int) ≤ 50 := x.2.2.2.2.2.2.2.1
theorem FI.r11 {ro va : Nat → Int} {f : TT} {j : Nat} (x : FI ro va f j) : ∀ i : Nat, i < cn ro 11 j → 0 ≤ f 7 (i : Int) ∧ f 7 (i : Int) < f 1 0 := x.2.2.2.2.2.2.2.2.1
theorem FI.bg {ro va : Nat → Int} {f : TT} {j : Nat} (x : FI ro va f j) : 0 ≤ f 8 0 ∧ f 8 0 ≤ 9999 := x.2.2.2.2.2.2.2.2.2.1
theorem FI.z {ro va : Nat → Int} {f : TT} {j : Nat} (x : FI ro va f j) : ∀ i, f 10 i = 0 ∨ f 10 i = 1 := x.2.2.2.2.2.2.2.2.2.2.1
theorem FI.zz {ro va : Nat → Int} {f : TT} {j : Nat} (x : FI ro va f j) : ∀ v p, 0 ≤ v → 0 ≤ p → v < 12 → p < 12 → (f 2 0 ≤ v ∨ f 1 0 ≤ p) → f 10 (12 * v + p) = 0 := x.2.2.2.2.2.2.2.2.2.2.2.1
theorem FI.m12 {ro va : Nat → Int} {f : TT} {j : Nat} (x : FI ro va f j) : ∀ k : Nat, k < j → ro k = 12 → 0 ≤ f 11 (k : Int) ∧ f 11 (k : Int) < f 1 0 := x.2.2.2.2.2.2.2.2.2.2.2.2.1
theorem FI.m13 {ro va : Nat → Int} {f : TT} {j : Nat} (x : FI ro va f j) : ∀ k : Nat, k < j → ro k = 13 → 0 ≤ f 11 (k : Int) ∧ f 11 (k : Int) < f 2 0 := x.2.2.2.2.2.2.2.2.2.2.2.2.2.1
theorem FI.m14 {ro va : Nat → Int} {f : TT} {j : Nat} (x : FI ro va f j) : ∀ k : Nat, k < j → ro k = 14 → f 11 (k : Int) = va k := x.2.2.2.2.2.2.2.2.2.2.2.2.2.2.1
theorem FI.mz {ro va : Nat → Int} {f : TT} {j : Nat} (x : FI ro va f j) : ∀ k : Nat, j ≤ k → f 11 (k : Int) = 0 := x.2.2.2.2.2.2.2.2.2.2.2.2.2.2.2
/-- what the grammar says of the roles -/
def RF (kd ro va : Nat → Int) (j : Nat) : Prop := (0 ≤ ro j ∧ ro j ≤ 14) ∧ (ro j = 5 → cn ro 1 j = cn ro 5 j + 1) ∧ (ro j = 6 → cn ro 2 j = cn ro 6 j + 1) ∧ (ro j = 7 → cn ro 2 j = cn ro 7 j + 1) ∧ (ro j = 9 → cn ro 2 j = cn ro 9 j + 1) ∧ (ro j = 10 → 1 ≤ cn ro 3 j) ∧ (ro j = 11 → cn ro 4 j = cn ro 11 j + 1) ∧ (ro j = 1 ∨ ro j = 2 ∨ ro j = 3 ∨ (9 ≤ ro j ∧ ro j ≤ 13) → kd j = 256) ∧ ((5 ≤ ro j ∧ ro j ≤ 8) ∨ ro j = 14 → kd j = 257 ∧ 0 ≤ va j ∧ va j ≤ 999999)
section
variable {kd ro va : Nat → Int} {f : TT} {j : Nat}
theorem FI.s1 (x : FI ro va f j) (g : RF kd ro va j) (e : ro j = 1) (hv : f 0 0 ≠ 4) : FI ro va (su f 0 0 (f 0 0 + 1)) (j + 1) := by
  obtain ⟨g0, g5, g6, g7, g9, g10, g11, g12, g13⟩ := g
  have e1 : cn ro 1 (j + 1) = cn ro 1 j + 1 := by
    show cn ro 1 j + (if ro j = 1 then 1 else 0) = _
    rw [if_pos e]
  have e2 : cn ro 2 (j + 1) = cn ro 2 j := by
    show cn ro 2 j + (if ro j = 2 then 1 else 0) = _
    rw [if_neg (by omega)]
    rfl
  have e3 : cn ro 3 (j + 1) = cn ro 3 j := by
    show cn ro 3 j + (if ro j = 3 then 1 else 0) = _
    rw [if_neg (by omega)]
    rfl
  have e4 : cn ro 4 (j + 1) = cn ro 4 j := by
    show cn ro 4 j + (if ro j = 4 then 1 else 0) = _
    rw [if_neg (by omega)]
    rfl
  have e5 : cn ro 5 (j + 1) = cn ro 5 j := by
    show cn ro 5 j + (if ro j = 5 then 1 else 0) = _
    rw [if_neg (by omega)]
    rfl
  have e6 : cn ro 6 (j + 1) = cn ro 6 j := by
    show cn ro 6 j + (if ro j = 6 then 1 else 0) = _
    rw [if_neg (by omega)]
    rfl
  have e7 : cn ro 7 (j + 1) = cn ro 7 j := by
    show cn ro 7 j + (if ro j = 7 then 1 else 0) = _
    rw [if_neg (by omega)]
    rfl
  have e9 : cn ro 9 (j + 1) = cn ro 9 j := by
    show cn ro 9 j + (if ro j = 9 then 1 else 0) = _
    rw [if_neg (by omega)]
    rfl
  have e11 : cn ro 11 (j + 1) = cn ro 11 j := by
    show cn ro 11 j + (if ro j = 11 then 1 else 0) = _
    rw [if_neg (by omega)]
    rfl
  have c1 := x.c1
  have c2 := x.c2
  have c3 := x.c3
  have c4 := x.c4
  have n0 : su f 0 0 (f 0 0 + 1) 0 0 = f 0 0 + 1 := su_eq
  have n1 : (su f 0 0 (f 0 0 + 1)) 1 0 = f 1 0 := su_ne (fun y => absurd y.1 (by decide))
  have n2 : (su f 0 0 (f 0 0 + 1)) 2 0 = f 2 0 := su_ne (fun y => absurd y.1 (by decide))
  have n3 : (su f 0 0 (f 0 0 + 1)) 3 0 = f 3 0 := su_ne (fun y => absurd y.1 (by decide))
  refine ⟨?_, ?_, ?_, ?_, ?_, ?_, ?_, ?_, ?_, ?_, ?_, ?_, ?_, ?_, ?_, ?_⟩
  · -- c1
    rw [n0, e1]
    omega
  · -- c2
    rw [n1, e2]
    omega
  · -- c3
    rw [n2, e3]
    omega
  · -- c4
    rw [n3, e4]
    omega
  · -- r5
    intro i hi
    rw [e5] at hi
    have qq : ∀ i, (su f 0 0 (f 0 0 + 1)) 4 i = f 4 i := fun i => su_ne (fun y => absurd y.1 (by decide))
    rw [qq]
    have a := x.r5 i hi
    omega
  · -- r6
    intro i hi
    rw [e6] at hi
    have qq : ∀ i, (su f 0 0 (f 0 0 + 1)) 9 i = f 9 i := fun i => su_ne (fun y => absurd y.1 (by decide))
    rw [qq]
    have a := x.r6 i hi
    omega
  · -- r9
    intro i hi
    rw [e9] at hi
    have qq : ∀ i, (su f 0 0 (f 0 0 + 1)) 5 i = f 5 i := fun i => su_ne (fun y => absurd y.1 (by decide))
    rw [qq, n0]
    have a := x.r9 i hi
    omega
  · -- r7
    intro i hi
    rw [e7] at hi
    have qq : ∀ i, (su f 0 0 (f 0 0 + 1)) 6 i = f 6 i := fun i => su_ne (fun y => absurd y.1 (by decide))
    rw [qq]
    have a := x.r7 i hi
    omega
  · -- r11
    intro i hi
    rw [e11] at hi
    have qq : ∀ i, (su f 0 0 (f 0 0 + 1)) 7 i = f 7 i := fun i => su_ne (fun y => absurd y.1 (by decide))
    rw [qq, n1]
    have a := x.r11 i hi
    omega
  · -- bg
    have qq : ∀ i, (su f 0 0 (f 0 0 + 1)) 8 i = f 8 i := fun i => su_ne (fun y => absurd y.1 (by decide))
    rw [qq]
    exact x.bg
  · -- z
    have qq : ∀ i, (su f 0 0 (f 0 0 + 1)) 10 i = f 10 i := fun i => su_ne (fun y => absurd y.1 (by decide))
    intro i
    rw [qq]
    exact x.z i
  · -- zz
    intro v2 p h0 h1 h2 h3 h4
    rw [n2, n1] at h4
    have qq : ∀ i, (su f 0 0 (f 0 0 + 1)) 10 i = f 10 i := fun i => su_ne (fun y => absurd y.1 (by decide))
    rw [qq]
    exact x.zz v2 p h0 h1 h2 h3 (by omega)
  · -- m12
    intro k hk er
    have kj : k ≠ j := fun y => by
      rw [y] at er
      omega
    have qq : ∀ i, (su f 0 0 (f 0 0 + 1)) 11 i = f 11 i := fun i => su_ne (fun y => absurd y.1 (by decide))
    rw [qq, n1]
    have a := x.m12 k (by omega) er
    omega
  · -- m13
    intro k hk er
    have kj : k ≠ j := fun y => by
      rw [y] at er
      omega
    have qq : ∀ i, (su f 0 0 (f 0 0 + 1)) 11 i = f 11 i := fun i => su_ne (fun y => absurd y.1 (by decide))
    rw [qq, n2]
    have a := x.m13 k (by omega) er
    omega
  · -- m14
    intro k hk er
    have kj : k ≠ j := fun y => by
      rw [y] at er
      omega
    have qq : ∀ i, (su f 0 0 (f 0 0 + 1)) 11 i = f 11 i := fun i => su_ne (fun y => absurd y.1 (by decide))
    rw [qq]
    have a := x.m14 k (by omega) er
    omega
  · -- mz
    intro k hk
    have qq : ∀ i, (su f 0 0 (f 0 0 + 1)) 11 i = f 11 i := fun i => su_ne (fun y => absurd y.1 (by decide))
    rw [qq]
    exact x.mz k (by omega)
theorem FI.s2 (x : FI ro va f j) (g : RF kd ro va j) (e : ro j = 2) (hv : f 1 0 ≠ 12) : FI ro va (su f 1 0 (f 1 0 + 1)) (j + 1) := by
  obtain ⟨g0, g5, g6, g7, g9, g10, g11, g12, g13⟩ := g
  have e1 : cn ro 1 (j + 1) = cn ro 1 j := by
    show cn ro 1 j + (if ro j = 1 then 1 else 0) = _
    rw [if_neg (by omega)]
    rfl
  have e2 : cn ro 2 (j + 1) = cn ro 2 j + 1 := by
    show cn ro 2 j + (if ro j = 2 then 1 else 0) = _
    rw [if_pos e]
  have e3 : cn ro 3 (j + 1) = cn ro 3 j := by
    show cn ro 3 j + (if ro j = 3 then 1 else 0) = _
    rw [if_neg (by omega)]
    rfl
  have e4 : cn ro 4 (j + 1) = cn ro 4 j := by
    show cn ro 4 j + (if ro j = 4 then 1 else 0) = _
    rw [if_neg (by omega)]
    rfl
  have e5 : cn ro 5 (j + 1) = cn ro 5 j := by
    show cn ro 5 j + (if ro j = 5 then 1 else 0) = _
    rw [if_neg (by omega)]
    rfl
  have e6 : cn ro 6 (j + 1) = cn ro 6 j := by
    show cn ro 6 j + (if ro j = 6 then 1 else 0) = _
    rw [if_neg (by omega)]
    rfl
  have e7 : cn ro 7 (j + 1) = cn ro 7 j := by
    show cn ro 7 j + (if ro j = 7 then 1 else 0) = _
    rw [if_neg (by omega)]
    rfl
  have e9 : cn ro 9 (j + 1) = cn ro 9 j := by
    show cn ro 9 j + (if ro j = 9 then 1 else 0) = _
    rw [if_neg (by omega)]
    rfl
  have e11 : cn ro 11 (j + 1) = cn ro 11 j := by
    show cn ro 11 j + (if ro j = 11 then 1 else 0) = _
    rw [if_neg (by omega)]
    rfl
  have c1 := x.c1
  have c2 := x.c2
  have c3 := x.c3
  have c4 := x.c4
  have n1 : su f 1 0 (f 1 0 + 1) 1 0 = f 1 0 + 1 := su_eq
  have n0 : (su f 1 0 (f 1 0 + 1)) 0 0 = f 0 0 := su_ne (fun y => absurd y.1 (by decide))
  have n2 : (su f 1 0 (f 1 0 + 1)) 2 0 = f 2 0 := su_ne (fun y => absurd y.1 (by decide))
  have n3 : (su f 1 0 (f 1 0 + 1)) 3 0 = f 3 0 := su_ne (fun y => absurd y.1 (by decide))
  refine ⟨?_, ?_, ?_, ?_, ?_, ?_, ?_, ?_, ?_, ?_, ?_, ?_, ?_, ?_, ?_, ?_⟩
  · -- c1
    rw [n0, e1]
    omega
  · -- c2
    rw [n1, e2]
    omega
  · -- c3
    rw [n2, e3]
    omega
  · -- c4
    rw [n3, e4]
    omega
  · -- r5
    intro i hi
    rw [e5] at hi
    have qq : ∀ i, (su f 1 0 (f 1 0 + 1)) 4 i = f 4 i := fun i => su_ne (fun y => absurd y.1 (by decide))
    rw [qq]
    have a := x.r5 i hi
    omega
  · -- r6
    intro i hi
    rw [e6] at hi
    have qq : ∀ i, (su f 1 0 (f 1 0 + 1)) 9 i = f 9 i := fun i => su_ne (fun y => absurd y.1 (by decide))
    rw [qq]
    have a := x.r6 i hi
    omega
  · -- r9
    intro i hi
    rw [e9] at hi
    have qq : ∀ i, (su f 1 0 (f 1 0 + 1)) 5 i = f 5 i := fun i => su_ne (fun y => absurd y.1 (by decide))
    rw [qq, n0]
    have a := x.r9 i hi
    omega
  · -- r7
    intro i hi
    rw [e7] at hi
    have qq : ∀ i, (su f 1 0 (f 1 0 + 1)) 6 i = f 6 i := fun i => su_ne (fun y => absurd y.1 (by decide))
    rw [qq]
    have a := x.r7 i hi
    omega
  · -- r11
    intro i hi
    rw [e11] at hi
    have qq : ∀ i, (su f 1 0 (f 1 0 + 1)) 7 i = f 7 i := fun i => su_ne (fun y => absurd y.1 (by decide))
    rw [qq, n1]
    have a := x.r11 i hi
    omega
  · -- bg
    have qq : ∀ i, (su f 1 0 (f 1 0 + 1)) 8 i = f 8 i := fun i => su_ne (fun y => absurd y.1 (by decide))
    rw [qq]
    exact x.bg
  · -- z
    have qq : ∀ i, (su f 1 0 (f 1 0 + 1)) 10 i = f 10 i := fun i => su_ne (fun y => absurd y.1 (by decide))
    intro i
    rw [qq]
    exact x.z i
  · -- zz
    intro v2 p h0 h1 h2 h3 h4
    rw [n2, n1] at h4
    have qq : ∀ i, (su f 1 0 (f 1 0 + 1)) 10 i = f 10 i := fun i => su_ne (fun y => absurd y.1 (by decide))
    rw [qq]
    exact x.zz v2 p h0 h1 h2 h3 (by omega)
  · -- m12
    intro k hk er
    have kj : k ≠ j := fun y => by
      rw [y] at er
      omega
    have qq : ∀ i, (su f 1 0 (f 1 0 + 1)) 11 i = f 11 i := fun i => su_ne (fun y => absurd y.1 (by decide))
    rw [qq, n1]
    have a := x.m12 k (by omega) er
    omega
  · -- m13
    intro k hk er
    have kj : k ≠ j := fun y => by
      rw [y] at er
      omega
    have qq : ∀ i, (su f 1 0 (f 1 0 + 1)) 11 i = f 11 i := fun i => su_ne (fun y => absurd y.1 (by decide))
    rw [qq, n2]
    have a := x.m13 k (by omega) er
    omega
  · -- m14
    intro k hk er
    have kj : k ≠ j := fun y => by
      rw [y] at er
      omega
    have qq : ∀ i, (su f 1 0 (f 1 0 + 1)) 11 i = f 11 i := fun i => su_ne (fun y => absurd y.1 (by decide))
    rw [qq]
    have a := x.m14 k (by omega) er
    omega
  · -- mz
    intro k hk
    have qq : ∀ i, (su f 1 0 (f 1 0 + 1)) 11 i = f 11 i := fun i => su_ne (fun y => absurd y.1 (by decide))
    rw [qq]
    exact x.mz k (by omega)
theorem FI.s3 (x : FI ro va f j) (g : RF kd ro va j) (e : ro j = 3) (hv : f 2 0 ≠ 12) : FI ro va (su f 2 0 (f 2 0 + 1)) (j + 1) := by
  obtain ⟨g0, g5, g6, g7, g9, g10, g11, g12, g13⟩ := g
  have e1 : cn ro 1 (j + 1) = cn ro 1 j := by
    show cn ro 1 j + (if ro j = 1 then 1 else 0) = _
    rw [if_neg (by omega)]
    rfl
  have e2 : cn ro 2 (j + 1) = cn ro 2 j := by
    show cn ro 2 j + (if ro j = 2 then 1 else 0) = _
    rw [if_neg (by omega)]
    rfl
  have e3 : cn ro 3 (j + 1) = cn ro 3 j + 1 := by
    show cn ro 3 j + (if ro j = 3 then 1 else 0) = _
    rw [if_pos e]
  have e4 : cn ro 4 (j + 1) = cn ro 4 j := by
    show cn ro 4 j + (if ro j = 4 then 1 else 0) = _
    rw [if_neg (by omega)]
    rfl
  have e5 : cn ro 5 (j + 1) = cn ro 5 j := by
    show cn ro 5 j + (if ro j = 5 then 1 else 0) = _
    rw [if_neg (by omega)]
    rfl
  have e6 : cn ro 6 (j + 1) = cn ro 6 j := by
    show cn ro 6 j + (if ro j = 6 then 1 else 0) = _
    rw [if_neg (by omega)]
    rfl
  have e7 : cn ro 7 (j + 1) = cn ro 7 j := by
    show cn ro 7 j + (if ro j = 7 then 1 else 0) = _
    rw [if_neg (by omega)]
    rfl
  have e9 : cn ro 9 (j + 1) = cn ro 9 j := by
    show cn ro 9 j + (if ro j = 9 then 1 else 0) = _
    rw [if_neg (by omega)]
    rfl
  have e11 : cn ro 11 (j + 1) = cn ro 11 j := by
    show cn ro 11 j + (if ro j = 11 then 1 else 0) = _
    rw [if_neg (by omega)]
    rfl
  have c1 := x.c1
  have c2 := x.c2
  have c3 := x.c3
  have c4 := x.c4
  have n2 : su f 2 0 (f 2 0 + 1) 2 0 = f 2 0 + 1 := su_eq
  have n0 : (su f 2 0 (f 2 0 + 1)) 0 0 = f 0 0 := su_ne (fun y => absurd y.1 (by decide))
  have n1 : (su f 2 0 (f 2 0 + 1)) 1 0 = f 1 0 := su_ne (fun y => absurd y.1 (by decide))
  have n3 : (su f 2 0 (f 2 0 + 1)) 3 0 = f 3 0 := su_ne (fun y => absurd y.1 (by decide))
  refine ⟨?_, ?_, ?_, ?_, ?_, ?_, ?_, ?_, ?_, ?_, ?_, ?_, ?_, ?_, ?_, ?_⟩
  · -- c1
    rw [n0, e1]
    omega
  · -- c2
    rw [n1, e2]
    omega
  · -- c3
    rw [n2, e3]
    omega
  · -- c4
    rw [n3, e4]
    omega
  · -- r5
    intro i hi
    rw [e5] at hi
    have qq : ∀ i, (su f 2 0 (f 2 0 + 1)) 4 i = f 4 i := fun i => su_ne (fun y => absurd y.1 (by decide))
    rw [qq]
    have a := x.r5 i hi
    omega
  · -- r6
    intro i hi
    rw [e6] at hi
    have qq : ∀ i, (su f 2 0 (f 2 0 + 1)) 9 i = f 9 i := fun i => su_ne (fun y => absurd y.1 (by decide))
    rw [qq]
    have a := x.r6 i hi
    omega
  · -- r9
    intro i hi
    rw [e9] at hi
    have qq : ∀ i, (su f 2 0 (f 2 0 + 1)) 5 i = f 5 i := fun i => su_ne (fun y => absurd y.1 (by decide))
    rw [qq, n0]
    have a := x.r9 i hi
    omega
  · -- r7
    intro i hi
    rw [e7] at hi
    have qq : ∀ i, (su f 2 0 (f 2 0 + 1)) 6 i = f 6 i := fun i => su_ne (fun y => absurd y.1 (by decide))
    rw [qq]
    have a := x.r7 i hi
    omega
  · -- r11
    intro i hi
    rw [e11] at hi
    have qq : ∀ i, (su f 2 0 (f 2 0 + 1)) 7 i = f 7 i := fun i => su_ne (fun y => absurd y.1 (by decide))
    rw [qq, n1]
    have a := x.r11 i hi
    omega
  · -- bg
    have qq : ∀ i, (su f 2 0 (f 2 0 + 1)) 8 i = f 8 i := fun i => su_ne (fun y => absurd y.1 (by decide))
    rw [qq]
    exact x.bg
  · -- z
    have qq : ∀ i, (su f 2 0 (f 2 0 + 1)) 10 i = f 10 i := fun i => su_ne (fun y => absurd y.1 (by decide))
    intro i
    rw [qq]
    exact x.z i
  · -- zz
    intro v2 p h0 h1 h2 h3 h4
    rw [n2, n1] at h4
    have qq : ∀ i, (su f 2 0 (f 2 0 + 1)) 10 i = f 10 i := fun i => su_ne (fun y => absurd y.1 (by decide))
    rw [qq]
    exact x.zz v2 p h0 h1 h2 h3 (by omega)
  · -- m12
    intro k hk er
    have kj : k ≠ j := fun y => by
      rw [y] at er
      omega
    have qq : ∀ i, (su f 2 0 (f 2 0 + 1)) 11 i = f 11 i := fun i => su_ne (fun y => absurd y.1 (by decide))
    rw [qq, n1]
    have a := x.m12 k (by omega) er
    omega
  · -- m13
    intro k hk er
    have kj : k ≠ j := fun y => by
      rw [y] at er
      omega
    have qq : ∀ i, (su f 2 0 (f 2 0 + 1)) 11 i = f 11 i := fun i => su_ne (fun y => absurd y.1 (by decide))
    rw [qq, n2]
    have a := x.m13 k (by omega) er
    omega
  · -- m14
    intro k hk er
    have kj : k ≠ j := fun y => by
      rw [y] at er
      omega
    have qq : ∀ i, (su f 2 0 (f 2 0 + 1)) 11 i = f 11 i := fun i => su_ne (fun y => absurd y.1 (by decide))
    rw [qq]
    have a := x.m14 k (by omega) er
    omega
  · -- mz
    intro k hk
    have qq : ∀ i, (su f 2 0 (f 2 0 + 1)) 11 i = f 11 i := fun i => su_ne (fun y => absurd y.1 (by decide))
    rw [qq]
    exact x.mz k (by omega)
theorem FI.s4 (x : FI ro va f j) (g : RF kd ro va j) (e : ro j = 4) (hv : f 3 0 ≠ 12) : FI ro va (su f 3 0 (f 3 0 + 1)) (j + 1) := by
  obtain ⟨g0, g5, g6, g7, g9, g10, g11, g12, g13⟩ := g
  have e1 : cn ro 1 (j + 1) = cn ro 1 j := by
    show cn ro 1 j + (if ro j = 1 then 1 else 0) = _
    rw [if_neg (by omega)]
    rfl
  have e2 : cn ro 2 (j + 1) = cn ro 2 j := by
    show cn ro 2 j + (if ro j = 2 then 1 else 0) = _
    rw [if_neg (by omega)]
    rfl
  have e3 : cn ro 3 (j + 1) = cn ro 3 j := by
    show cn ro 3 j + (if ro j = 3 then 1 else 0) = _
    rw [if_neg (by omega)]
    rfl
  have e4 : cn ro 4 (j + 1) = cn ro 4 j + 1 := by
    show cn ro 4 j + (if ro j = 4 then 1 else 0) = _
    rw [if_pos e]
  have e5 : cn ro 5 (j + 1) = cn ro 5 j := by
    show cn ro 5 j + (if ro j = 5 then 1 else 0) = _
    rw [if_neg (by omega)]
    rfl
  have e6 : cn ro 6 (j + 1) = cn ro 6 j := by
    show cn ro 6 j + (if ro j = 6 then 1 else 0) = _
    rw [if_neg (by omega)]
    rfl
  have e7 : cn ro 7 (j + 1) = cn ro 7 j := by
    show cn ro 7 j + (if ro j = 7 then 1 else 0) = _
    rw [if_neg (by omega)]
    rfl
  have e9 : cn ro 9 (j + 1) = cn ro 9 j := by
    show cn ro 9 j + (if ro j = 9 then 1 else 0) = _
    rw [if_neg (by omega)]
    rfl
  have e11 : cn ro 11 (j + 1) = cn ro 11 j := by
    show cn ro 11 j + (if ro j = 11 then 1 else 0) = _
    rw [if_neg (by omega)]
    rfl
  have c1 := x.c1
  have c2 := x.c2
  have c3 := x.c3
  have c4 := x.c4
  have n3 : su f 3 0 (f 3 0 + 1) 3 0 = f 3 0 + 1 := su_eq
  have n0 : (su f 3 0 (f 3 0 + 1)) 0 0 = f 0 0 := su_ne (fun y => absurd y.1 (by decide))
  have n1 : (su f 3 0 (f 3 0 + 1)) 1 0 = f 1 0 := su_ne (fun y => absurd y.1 (by decide))
  have n2 : (su f 3 0 (f 3 0 + 1)) 2 0 = f 2 0 := su_ne (fun y => absurd y.1 (by decide))
  refine ⟨?_, ?_, ?_, ?_, ?_, ?_, ?_, ?_, ?_, ?_, ?_, ?_, ?_, ?_, ?_, ?_⟩
  · -- c1
    rw [n0, e1]
    omega
  · -- c2
    rw [n1, e2]
    omega
  · -- c3
    rw [n2, e3]
    omega
  · -- c4
    rw [n3, e4]
    omega
  · -- r5
    intro i hi
    rw [e5] at hi
    have qq : ∀ i, (su f 3 0 (f 3 0 + 1)) 4 i = f 4 i := fun i => su_ne (fun y => absurd y.1 (by decide))
    rw [qq]
    have a := x.r5 i hi
    omega
  · -- r6
    intro i hi
    rw [e6] at hi
    have qq : ∀ i, (su f 3 0 (f 3 0 + 1)) 9 i = f 9 i := fun i => su_ne (fun y => absurd y.1 (by decide))
    rw [qq]
    have a := x.r6 i hi
    omega
  · -- r9
    intro i hi
    rw [e9] at hi
    have qq : ∀ i, (su f 3 0 (f 3 0 + 1)) 5 i = f 5 i := fun i => su_ne (fun y => absurd y.1 (by decide))
    rw [qq, n0]
    have a := x.r9 i hi
    omega
  · -- r7
    intro i hi
    rw [e7] at hi
    have qq : ∀ i, (su f 3 0 (f 3 0 + 1)) 6 i = f 6 i := fun i => su_ne (fun y => absurd y.1 (by decide))
    rw [qq]
    have a := x.r7 i hi
    omega
  · -- r11
    intro i hi
    rw [e11] at hi
    have qq : ∀ i, (su f 3 0 (f 3 0 + 1)) 7 i = f 7 i := fun i => su_ne (fun y => absurd y.1 (by decide))
    rw [qq, n1]
    have a := x.r11 i hi
    omega
  · -- bg
    have qq : ∀ i, (su f 3 0 (f 3 0 + 1)) 8 i = f 8 i := fun i => su_ne (fun y => absurd y.1 (by decide))
    rw [qq]
    exact x.bg
  · -- z
    have qq : ∀ i, (su f 3 0 (f 3 0 + 1)) 10 i = f 10 i := fun i => su_ne (fun y => absurd y.1 (by decide))
    intro i
    rw [qq]
    exact x.z i
  · -- zz
    intro v2 p h0 h1 h2 h3 h4
    rw [n2, n1] at h4
    have qq : ∀ i, (su f 3 0 (f 3 0 + 1)) 10 i = f 10 i := fun i => su_ne (fun y => absurd y.1 (by decide))
    rw [qq]
    exact x.zz v2 p h0 h1 h2 h3 (by omega)
  · -- m12
    intro k hk er
    have kj : k ≠ j := fun y => by
      rw [y] at er
      omega
    have qq : ∀ i, (su f 3 0 (f 3 0 + 1)) 11 i = f 11 i := fun i => su_ne (fun y => absurd y.1 (by decide))
    rw [qq, n1]
    have a := x.m12 k (by omega) er
    omega
  · -- m13
    intro k hk er
    have kj : k ≠ j := fun y => by
      rw [y] at er
      omega
    have qq : ∀ i, (su f 3 0 (f 3 0 + 1)) 11 i = f 11 i := fun i => su_ne (fun y => absurd y.1 (by decide))
    rw [qq, n2]
    have a := x.m13 k (by omega) er
    omega
  · -- m14
    intro k hk er
    have kj : k ≠ j := fun y => by
      rw [y] at er
      omega
    have qq : ∀ i, (su f 3 0 (f 3 0 + 1)) 11 i = f 11 i := fun i => su_ne (fun y => absurd y.1 (by decide))
    rw [qq]
    have a := x.m14 k (by omega) er
    omega
  · -- mz
    intro k hk
    have qq : ∀ i, (su f 3 0 (f 3 0 + 1)) 11 i = f 11 i := fun i => su_ne (fun y => absurd y.1 (by decide))
    rw [qq]
    exact x.mz k (by omega)
theorem FI.s5 (x : FI ro va f j) (g : RF kd ro va j) (e : ro j = 5) {v : Int} (hv : 0 ≤ v ∧ v ≤ 12) : FI ro va (su f 4 (f 0 0 - 1) v) (j + 1) := by
  obtain ⟨g0, g5, g6, g7, g9, g10, g11, g12, g13⟩ := g
  have e1 : cn ro 1 (j + 1) = cn ro 1 j := by
    show cn ro 1 j + (if ro j = 1 then 1 else 0) = _
    rw [if_neg (by omega)]
    rfl
  have e2 : cn ro 2 (j + 1) = cn ro 2 j := by
    show cn ro 2 j + (if ro j = 2 then 1 else 0) = _
    rw [if_neg (by omega)]
    rfl
  have e3 : cn ro 3 (j + 1) = cn ro 3 j := by
    show cn ro 3 j + (if ro j = 3 then 1 else 0) = _
    rw [if_neg (by omega)]
    rfl
  have e4 : cn ro 4 (j + 1) = cn ro 4 j := by
    show cn ro 4 j + (if ro j = 4 then 1 else 0) = _
    rw [if_neg (by omega)]
    rfl
  have e5 : cn ro 5 (j + 1) = cn ro 5 j + 1 := by
    show cn ro 5 j + (if ro j = 5 then 1 else 0) = _
    rw [if_pos e]
  have e6 : cn ro 6 (j + 1) = cn ro 6 j := by
    show cn ro 6 j + (if ro j = 6 then 1 else 0) = _
    rw [if_neg (by omega)]
    rfl
  have e7 : cn ro 7 (j + 1) = cn ro 7 j := by
    show cn ro 7 j + (if ro j = 7 then 1 else 0) = _
    rw [if_neg (by omega)]
    rfl
  have e9 : cn ro 9 (j + 1) = cn ro 9 j := by
    show cn ro 9 j + (if ro j = 9 then 1 else 0) = _
    rw [if_neg (by omega)]
    rfl
  have e11 : cn ro 11 (j + 1) = cn ro 11 j := by
    show cn ro 11 j + (if ro j = 11 then 1 else 0) = _
    rw [if_neg (by omega)]
    rfl
  have c1 := x.c1
  have c2 := x.c2
  have c3 := x.c3
  have c4 := x.c4
  have n0 : (su f 4 (f 0 0 - 1) v) 0 0 = f 0 0 := su_ne (fun y => absurd y.1 (by decide))
  have n1 : (su f 4 (f 0 0 - 1) v) 1 0 = f 1 0 := su_ne (fun y => absurd y.1 (by decide))
  have n2 : (su f 4 (f 0 0 - 1) v) 2 0 = f 2 0 := su_ne (fun y => absurd y.1 (by decide))
  have n3 : (su f 4 (f 0 0 - 1) v) 3 0 = f 3 0 := su_ne (fun y => absurd y.1 (by decide))
  refine ⟨?_, ?_, ?_, ?_, ?_, ?_, ?_, ?_, ?_, ?_, ?_, ?_, ?_, ?_, ?_, ?_⟩
  · -- c1
    rw [n0, e1]
    omega
  · -- c2
    rw [n1, e2]
    omega
  · -- c3
    rw [n2, e3]
    omega
  · -- c4
    rw [n3, e4]
    omega
  · -- r5
    intro i hi
    rw [e5] at hi
    by_cases y : (i : Int) = (f 0 0 - 1)
    · rw [y, su_eq]
      omega
    · rw [su_ne (fun w => y w.2)]
      have a := x.r5 i (by omega)
      exact a
  · -- r6
    intro i hi
    rw [e6] at hi
    have qq : ∀ i, (su f 4 (f 0 0 - 1) v) 9 i = f 9 i := fun i => su_ne (fun y => absurd y.1 (by decide))
    rw [qq]
    have a := x.r6 i hi
    omega
  · -- r9
    intro i hi
    rw [e9] at hi
    have qq : ∀ i, (su f 4 (f 0 0 - 1) v) 5 i = f 5 i := fun i => su_ne (fun y => absurd y.1 (by decide))
    rw [qq, n0]
    have a := x.r9 i hi
    omega
  · -- r7
    intro i hi
    rw [e7] at hi
    have qq : ∀ i, (su f 4 (f 0 0 - 1) v) 6 i = f 6 i := fun i => su_ne (fun y => absurd y.1 (by decide))
    rw [qq]
    have a := x.r7 i hi
    omega
  · -- r11
    intro i hi
    rw [e11] at hi
    have qq : ∀ i, (su f 4 (f 0 0 - 1) v) 7 i = f 7 i := fun i => su_ne (fun y => absurd y.1 (by decide))
    rw [qq, n1]
    have a := x.r11 i hi
    omega
  · -- bg
    have qq : ∀ i, (su f 4 (f 0 0 - 1) v) 8 i = f 8 i := fun i => su_ne (fun y => absurd y.1 (by decide))
    rw [qq]
    exact x.bg
  · -- z
    have qq : ∀ i, (su f 4 (f 0 0 - 1) v) 10 i = f 10 i := fun i => su_ne (fun y => absurd y.1 (by decide))
    intro i
    rw [qq]
    exact x.z i
  · -- zz
    intro v2 p h0 h1 h2 h3 h4
    rw [n2, n1] at h4
    have qq : ∀ i, (su f 4 (f 0 0 - 1) v) 10 i = f 10 i := fun i => su_ne (fun y => absurd y.1 (by decide))
    rw [qq]
    exact x.zz v2 p h0 h1 h2 h3 (by omega)
  · -- m12
    intro k hk er
    have kj : k ≠ j := fun y => by
      rw [y] at er
      omega
    have qq : ∀ i, (su f 4 (f 0 0 - 1) v) 11 i = f 11 i := fun i => su_ne (fun y => absurd y.1 (by decide))
    rw [qq, n1]
    have a := x.m12 k (by omega) er
    omega
  · -- m13
    intro k hk er
    have kj : k ≠ j := fun y => by
      rw [y] at er
      omega
    have qq : ∀ i, (su f 4 (f 0 0 - 1) v) 11 i = f 11 i := fun i => su_ne (fun y => absurd y.1 (by decide))
    rw [qq, n2]
    have a := x.m13 k (by omega) er
    omega
  · -- m14
    intro k hk er
    have kj : k ≠ j := fun y => by
      rw [y] at er
      omega
    have qq : ∀ i, (su f 4 (f 0 0 - 1) v) 11 i = f 11 i := fun i => su_ne (fun y => absurd y.1 (by decide))
    rw [qq]
    have a := x.m14 k (by omega) er
    omega
  · -- mz
    intro k hk
    have qq : ∀ i, (su f 4 (f 0 0 - 1) v) 11 i = f 11 i := fun i => su_ne (fun y => absurd y.1 (by decide))
    rw [qq]
    exact x.mz k (by omega)
theorem FI.s6 (x : FI ro va f j) (g : RF kd ro va j) (e : ro j = 6) {v : Int} (hv : 1 ≤ v ∧ v ≤ 999) : FI ro va (su f 9 (f 1 0 - 1) v) (j + 1) := by
  obtain ⟨g0, g5, g6, g7, g9, g10, g11, g12, g13⟩ := g
  have e1 : cn ro 1 (j + 1) = cn ro 1 j := by
    show cn ro 1 j + (if ro j = 1 then 1 else 0) = _
    rw [if_neg (by omega)]
    rfl
  have e2 : cn ro 2 (j + 1) = cn ro 2 j := by
    show cn ro 2 j + (if ro j = 2 then 1 else 0) = _
    rw [if_neg (by omega)]
    rfl
  have e3 : cn ro 3 (j + 1) = cn ro 3 j := by
    show cn ro 3 j + (if ro j = 3 then 1 else 0) = _
    rw [if_neg (by omega)]
    rfl
  have e4 : cn ro 4 (j + 1) = cn ro 4 j := by
    show cn ro 4 j + (if ro j = 4 then 1 else 0) = _
    rw [if_neg (by omega)]
    rfl
  have e5 : cn ro 5 (j + 1) = cn ro 5 j := by
    show cn ro 5 j + (if ro j = 5 then 1 else 0) = _
    rw [if_neg (by omega)]
    rfl
  have e6 : cn ro 6 (j + 1) = cn ro 6 j + 1 := by
    show cn ro 6 j + (if ro j = 6 then 1 else 0) = _
    rw [if_pos e]
  have e7 : cn ro 7 (j + 1) = cn ro 7 j := by
    show cn ro 7 j + (if ro j = 7 then 1 else 0) = _
    rw [if_neg (by omega)]
    rfl
  have e9 : cn ro 9 (j + 1) = cn ro 9 j := by
    show cn ro 9 j + (if ro j = 9 then 1 else 0) = _
    rw [if_neg (by omega)]
    rfl
  have e11 : cn ro 11 (j + 1) = cn ro 11 j := by
    show cn ro 11 j + (if ro j = 11 then 1 else 0) = _
    rw [if_neg (by omega)]
    rfl
  have c1 := x.c1
  have c2 := x.c2
  have c3 := x.c3
  have c4 := x.c4
  have n0 : (su f 9 (f 1 0 - 1) v) 0 0 = f 0 0 := su_ne (fun y => absurd y.1 (by decide))
  have n1 : (su f 9 (f 1 0 - 1) v) 1 0 = f 1 0 := su_ne (fun y => absurd y.1 (by decide))
  have n2 : (su f 9 (f 1 0 - 1) v) 2 0 = f 2 0 := su_ne (fun y => absurd y.1 (by decide))
  have n3 : (su f 9 (f 1 0 - 1) v) 3 0 = f 3 0 := su_ne (fun y => absurd y.1 (by decide))
  refine ⟨?_, ?_, ?_, ?_, ?_, ?_, ?_, ?_, ?_, ?_, ?_, ?_, ?_, ?_, ?_, ?_⟩
  · -- c1
    rw [n0, e1]
    omega
  · -- c2
    rw [n1, e2]
    omega
  · -- c3
    rw [n2, e3]
    omega
  · -- c4
    rw [n3, e4]
    omega
  · -- r5
    intro i hi
    rw [e5] at hi
    have qq : ∀ i, (su f 9 (f 1 0 - 1) v) 4 i = f 4 i := fun i => su_ne (fun y => absurd y.1 (by decide))
    rw [qq]
    have a := x.r5 i hi
    omega
  · -- r6
    intro i hi
    rw [e6] at hi
    by_cases y : (i : Int) = (f 1 0 - 1)
    · rw [y, su_eq]
      omega
    · rw [su_ne (fun w => y w.2)]
      have a := x.r6 i (by omega)
      exact a
  · -- r9
    intro i hi
    rw [e9] at hi
    have qq : ∀ i, (su f 9 (f 1 0 - 1) v) 5 i = f 5 i := fun i => su_ne (fun y => absurd y.1 (by decide))
    rw [qq, n0]
    have a := x.r9 i hi
    omega
  · -- r7
    intro i hi
    rw [e7] at hi
    have qq : ∀ i, (su f 9 (f 1 0 - 1) v) 6 i = f 6 i := fun i => su_ne (fun y => absurd y.1 (by decide))
    rw [qq]
    have a := x.r7 i hi
    omega
  · -- r11
    intro i hi
    rw [e11] at hi
    have qq : ∀ i, (su f 9 (f 1 0 - 1) v) 7 i = f 7 i := fun i => su_ne (fun y => absurd y.1 (by decide))
    rw [qq, n1]
    have a := x.r11 i hi
    omega
  · -- bg
    have qq : ∀ i, (su f 9 (f 1 0 - 1) v) 8 i = f 8 i := fun i => su_ne (fun y => absurd y.1 (by decide))
    rw [qq]
    exact x.bg
  · -- z
    have qq : ∀ i, (su f 9 (f 1 0 - 1) v) 10 i = f 10 i := fun i => su_ne (fun y => absurd y.1 (by decide))
    intro i
    rw [qq]
    exact x.z i
  · -- zz
    intro v2 p h0 h1 h2 h3 h4
    rw [n2, n1] at h4
    have qq : ∀ i, (su f 9 (f 1 0 - 1) v) 10 i = f 10 i := fun i => su_ne (fun y => absurd y.1 (by decide))
    rw [qq]
    exact x.zz v2 p h0 h1 h2 h3 (by omega)
  · -- m12
    intro k hk er
    have kj : k ≠ j := fun y => by
      rw [y] at er
      omega
    have qq : ∀ i, (su f 9 (f 1 0 - 1) v) 11 i = f 11 i := fun i => su_ne (fun y => absurd y.1 (by decide))
    rw [qq, n1]
    have a := x.m12 k (by omega) er
    omega
  · -- m13
    intro k hk er
    have kj : k ≠ j := fun y => by
      rw [y] at er
      omega
    have qq : ∀ i, (su f 9 (f 1 0 - 1) v) 11 i = f 11 i := fun i => su_ne (fun y => absurd y.1 (by decide))
    rw [qq, n2]
    have a := x.m13 k (by omega) er
    omega
  · -- m14
    intro k hk er
    have kj : k ≠ j := fun y => by
      rw [y] at er
      omega
    have qq : ∀ i, (su f 9 (f 1 0 - 1) v) 11 i = f 11 i := fun i => su_ne (fun y => absurd y.1 (by decide))
    rw [qq]
    have a := x.m14 k (by omega) er
    omega
  · -- mz
    intro k hk
    have qq : ∀ i, (su f 9 (f 1 0 - 1) v) 11 i = f 11 i := fun i => su_ne (fun y => absurd y.1 (by decide))
    rw [qq]
    exact x.mz k (by omega)
theorem FI.s7 (x : FI ro va f j) (g : RF kd ro va j) (e : ro j = 7) {v : Int} (hv : 0 ≤ v ∧ v ≤ 50) : FI ro va (su f 6 (f 1 0 - 1) v) (j + 1) := by
  obtain ⟨g0, g5, g6, g7, g9, g10, g11, g12, g13⟩ := g
  have e1 : cn ro 1 (j + 1) = cn ro 1 j := by
    show cn ro 1 j + (if ro j = 1 then 1 else 0) = _
    rw [if_neg (by omega)]
    rfl
  have e2 : cn ro 2 (j + 1) = cn ro 2 j := by
    show cn ro 2 j + (if ro j = 2 then 1 else 0) = _
    rw [if_neg (by omega)]
    rfl
  have e3 : cn ro 3 (j + 1) = cn ro 3 j := by
    show cn ro 3 j + (if ro j = 3 then 1 else 0) = _
    rw [if_neg (by omega)]
    rfl
  have e4 : cn ro 4 (j + 1) = cn ro 4 j := by
    show cn ro 4 j + (if ro j = 4 then 1 else 0) = _
    rw [if_neg (by omega)]
    rfl
  have e5 : cn ro 5 (j + 1) = cn ro 5 j := by
    show cn ro 5 j + (if ro j = 5 then 1 else 0) = _
    rw [if_neg (by omega)]
    rfl
  have e6 : cn ro 6 (j + 1) = cn ro 6 j := by
    show cn ro 6 j + (if ro j = 6 then 1 else 0) = _
    rw [if_neg (by omega)]
    rfl
  have e7 : cn ro 7 (j + 1) = cn ro 7 j + 1 := by
    show cn ro 7 j + (if ro j = 7 then 1 else 0) = _
    rw [if_pos e]
  have e9 : cn ro 9 (j + 1) = cn ro 9 j := by
    show cn ro 9 j + (if ro j = 9 then 1 else 0) = _
    rw [if_neg (by omega)]
    rfl
  have e11 : cn ro 11 (j + 1) = cn ro 11 j := by
    show cn ro 11 j + (if ro j = 11 then 1 else 0) = _
    rw [if_neg (by omega)]
    rfl
  have c1 := x.c1
  have c2 := x.c2
  have c3 := x.c3
  have c4 := x.c4
  have n0 : (su f 6 (f 1 0 - 1) v) 0 0 = f 0 0 := su_ne (fun y => absurd y.1 (by decide))
  have n1 : (su f 6 (f 1 0 - 1) v) 1 0 = f 1 0 := su_ne (fun y => absurd y.1 (by decide))
  have n2 : (su f 6 (f 1 0 - 1) v) 2 0 = f 2 0 := su_ne (fun y => absurd y.1 (by decide))
  have n3 : (su f 6 (f 1 0 - 1) v) 3 0 = f 3 0 := su_ne (fun y => absurd y.1 (by decide))
  refine ⟨?_, ?_, ?_, ?_, ?_, ?_, ?_, ?_, ?_, ?_, ?_, ?_, ?_, ?_, ?_, ?_⟩
  · -- c1
    rw [n0, e1]
    omega
  · -- c2
    rw [n1, e2]
    omega
  · -- c3
    rw [n2, e3]
    omega
  · -- c4
    rw [n3, e4]
    omega
  · -- r5
    intro i hi
    rw [e5] at hi
    have qq : ∀ i, (su f 6 (f 1 0 - 1) v) 4 i = f 4 i := fun i => su_ne (fun y => absurd y.1 (by decide))
    rw [qq]
    have a := x.r5 i hi
    omega
  · -- r6
    intro i hi
    rw [e6] at hi
    have qq : ∀ i, (su f 6 (f 1 0 - 1) v) 9 i = f 9 i := fun i => su_ne (fun y => absurd y.1 (by decide))
    rw [qq]
    have a := x.r6 i hi
    omega
  · -- r9
    intro i hi
    rw [e9] at hi
    have qq : ∀ i, (su f 6 (f 1 0 - 1) v) 5 i = f 5 i := fun i => su_ne (fun y => absurd y.1 (by decide))
    rw [qq, n0]
    have a := x.r9 i hi
    omega
  · -- r7
    intro i hi
    rw [e7] at hi
    by_cases y : (i : Int) = (f 1 0 - 1)
    · rw [y, su_eq]
      omega
    · rw [su_ne (fun w => y w.2)]
      have a := x.r7 i (by omega)
      exact a
  · -- r11
    intro i hi
    rw [e11] at hi
    have qq : ∀ i, (su f 6 (f 1 0 - 1) v) 7 i = f 7 i := fun i => su_ne (fun y => absurd y.1 (by decide))
    rw [qq, n1]
    have a := x.r11 i hi
    omega
  · -- bg
    have qq : ∀ i, (su f 6 (f 1 0 - 1) v) 8 i = f 8 i := fun i => su_ne (fun y => absurd y.1 (by decide))
    rw [qq]
    exact x.bg
  · -- z
    have qq : ∀ i, (su f 6 (f 1 0 - 1) v) 10 i = f 10 i := fun i => su_ne (fun y => absurd y.1 (by decide))
    intro i
    rw [qq]
    exact x.z i
  · -- zz
    intro v2 p h0 h1 h2 h3 h4
    rw [n2, n1] at h4
    have qq : ∀ i, (su f 6 (f 1 0 - 1) v) 10 i = f 10 i := fun i => su_ne (fun y => absurd y.1 (by decide))
    rw [qq]
    exact x.zz v2 p h0 h1 h2 h3 (by omega)
  · -- m12
    intro k hk er
    have kj : k ≠ j := fun y => by
      rw [y] at er
      omega
    have qq : ∀ i, (su f 6 (f 1 0 - 1) v) 11 i = f 11 i := fun i => su_ne (fun y => absurd y.1 (by decide))
    rw [qq, n1]
    have a := x.m12 k (by omega) er
    omega
  · -- m13
    intro k hk er
    have kj : k ≠ j := fun y => by
      rw [y] at er
      omega
    have qq : ∀ i, (su f 6 (f 1 0 - 1) v) 11 i = f 11 i := fun i => su_ne (fun y => absurd y.1 (by decide))
    rw [qq, n2]
    have a := x.m13 k (by omega) er
    omega
  · -- m14
    intro k hk er
    have kj : k ≠ j := fun y => by
      rw [y] at er
      omega
    have qq : ∀ i, (su f 6 (f 1 0 - 1) v) 11 i = f 11 i := fun i => su_ne (fun y => absurd y.1 (by decide))
    rw [qq]
    have a := x.m14 k (by omega) er
    omega
  · -- mz
    intro k hk
    have qq : ∀ i, (su f 6 (f 1 0 - 1) v) 11 i = f 11 i := fun i => su_ne (fun y => absurd y.1 (by decide))
    rw [qq]
    exact x.mz k (by omega)
theorem FI.s8 (x : FI ro va f j) (g : RF kd ro va j) (e : ro j = 8) {v : Int} (hv : 0 ≤ v ∧ v ≤ 9999) : FI ro va (su f 8 0 v) (j + 1) := by
  obtain ⟨g0, g5, g6, g7, g9, g10, g11, g12, g13⟩ := g
  have e1 : cn ro 1 (j + 1) = cn ro 1 j := by
    show cn ro 1 j + (if ro j = 1 then 1 else 0) = _
    rw [if_neg (by omega)]
    rfl
  have e2 : cn ro 2 (j + 1) = cn ro 2 j := by
    show cn ro 2 j + (if ro j = 2 then 1 else 0) = _
    rw [if_neg (by omega)]
    rfl
  have e3 : cn ro 3 (j + 1) = cn ro 3 j := by
    show cn ro 3 j + (if ro j = 3 then 1 else 0) = _
    rw [if_neg (by omega)]
    rfl
  have e4 : cn ro 4 (j + 1) = cn ro 4 j := by
    show cn ro 4 j + (if ro j = 4 then 1 else 0) = _
    rw [if_neg (by omega)]
    rfl
  have e5 : cn ro 5 (j + 1) = cn ro 5 j := by
    show cn ro 5 j + (if ro j = 5 then 1 else 0) = _
    rw [if_neg (by omega)]
    rfl
  have e6 : cn ro 6 (j + 1) = cn ro 6 j := by
    show cn ro 6 j + (if ro j = 6 then 1 else 0) = _
    rw [if_neg (by omega)]
    rfl
  have e7 : cn ro 7 (j + 1) = cn ro 7 j := by
    show cn ro 7 j + (if ro j = 7 then 1 else 0) = _
    rw [if_neg (by omega)]
    rfl
  have e9 : cn ro 9 (j + 1) = cn ro 9 j := by
    show cn ro 9 j + (if ro j = 9 then 1 else 0) = _
    rw [if_neg (by omega)]
    rfl
  have e11 : cn ro 11 (j + 1) = cn ro 11 j := by
    show cn ro 11 j + (if ro j = 11 then 1 else 0) = _
    rw [if_neg (by omega)]
    rfl
  have c1 := x.c1
  have c2 := x.c2
  have c3 := x.c3
  have c4 := x.c4
  have n0 : (su f 8 0 v) 0 0 = f 0 0 := su_ne (fun y => absurd y.1 (by decide))
  have n1 : (su f 8 0 v) 1 0 = f 1 0 := su_ne (fun y => absurd y.1 (by decide))
  have n2 : (su f 8 0 v) 2 0 = f 2 0 := su_ne (fun y => absurd y.1 (by decide))
  have n3 : (su f 8 0 v) 3 0 = f 3 0 := su_ne (fun y => absurd y.1 (by decide))
  refine ⟨?_, ?_, ?_, ?_, ?_, ?_, ?_, ?_, ?_, ?_, ?_, ?_, ?_, ?_, ?_, ?_⟩
  · -- c1
    rw [n0, e1]
    omega
  · -- c2
    rw [n1, e2]
    omega
  · -- c3
    rw [n2, e3]
    omega
  · -- c4
    rw [n3, e4]
    omega
  · -- r5
    intro i hi
    rw [e5] at hi
    have qq : ∀ i, (su f 8 0 v) 4 i = f 4 i := fun i => su_ne (fun y => absurd y.1 (by decide))
    rw [qq]
    have a := x.r5 i hi
    omega
  · -- r6
    intro i hi
    rw [e6] at hi
    have qq : ∀ i, (su f 8 0 v) 9 i = f 9 i := fun i => su_ne (fun y => absurd y.1 (by decide))
    rw [qq]
    have a := x.r6 i hi
    omega
  · -- r9
    intro i hi
    rw [e9] at hi
    have qq : ∀ i, (su f 8 0 v) 5 i = f 5 i := fun i => su_ne (fun y => absurd y.1 (by decide))
    rw [qq, n0]
    have a := x.r9 i hi
    omega
  · -- r7
    intro i hi
    rw [e7] at hi
    have qq : ∀ i, (su f 8 0 v) 6 i = f 6 i := fun i => su_ne (fun y => absurd y.1 (by decide))
    rw [qq]
    have a := x.r7 i hi
    omega
  · -- r11
    intro i hi
    rw [e11] at hi
    have qq : ∀ i, (su f 8 0 v) 7 i = f 7 i := fun i => su_ne (fun y => absurd y.1 (by decide))
    rw [qq, n1]
    have a := x.r11 i hi
    omega
  · -- bg
    rw [su_eq]
    exact hv
  · -- z
    have qq : ∀ i, (su f 8 0 v) 10 i = f 10 i := fun i => su_ne (fun y => absurd y.1 (by decide))
    intro i
    rw [qq]
    exact x.z i
  · -- zz
    intro v2 p h0 h1 h2 h3 h4
    rw [n2, n1] at h4
    have qq : ∀ i, (su f 8 0 v) 10 i = f 10 i := fun i => su_ne (fun y => absurd y.1 (by decide))
    rw [qq]
    exact x.zz v2 p h0 h1 h2 h3 (by omega)
  · -- m12
    intro k hk er
    have kj : k ≠ j := fun y => by
      rw [y] at er
      omega
    have qq : ∀ i, (su f 8 0 v) 11 i = f 11 i := fun i => su_ne (fun y => absurd y.1 (by decide))
    rw [qq, n1]
    have a := x.m12 k (by omega) er
    omega
  · -- m13
    intro k hk er
    have kj : k ≠ j := fun y => by
      rw [y] at er
      omega
    have qq : ∀ i, (su f 8 0 v) 11 i = f 11 i := fun i => su_ne (fun y => absurd y.1 (by decide))
    rw [qq, n2]
    have a := x.m13 k (by omega) er
    omega
  · -- m14
    intro k hk er
    have kj : k ≠ j := fun y => by
      rw [y] at er
      omega
    have qq : ∀ i, (su f 8 0 v) 11 i = f 11 i := fun i => su_ne (fun y => absurd y.1 (by decide))
    rw [qq]
    have a := x.m14 k (by omega) er
    omega
  · -- mz
    intro k hk
    have qq : ∀ i, (su f 8 0 v) 11 i = f 11 i := fun i => su_ne (fun y => absurd y.1 (by decide))
    rw [qq]
    exact x.mz k (by omega)
theorem FI.s9 (x : FI ro va f j) (g : RF kd ro va j) (e : ro j = 9) {v : Int} (hv : 0 ≤ v ∧ v < (cn ro 1 j : Int)) : FI ro va (su f 5 (f 1 0 - 1) v) (j + 1) := by
  obtain ⟨g0, g5, g6, g7, g9, g10, g11, g12, g13⟩ := g
  have e1 : cn ro 1 (j + 1) = cn ro 1 j := by
    show cn ro 1 j + (if ro j = 1 then 1 else 0) = _
    rw [if_neg (by omega)]
    rfl
  have e2 : cn ro 2 (j + 1) = cn ro 2 j := by
    show cn ro 2 j + (if ro j = 2 then 1 else 0) = _
    rw [if_neg (by omega)]
    rfl
  have e3 : cn ro 3 (j + 1) = cn ro 3 j := by
    show cn ro 3 j + (if ro j = 3 then 1 else 0) = _
    rw [if_neg (by omega)]
    rfl
  have e4 : cn ro 4 (j + 1) = cn ro 4 j := by
    show cn ro 4 j + (if ro j = 4 then 1 else 0) = _
    rw [if_neg (by omega)]
    rfl
  have e5 : cn ro 5 (j + 1) = cn ro 5 j := by
    show cn ro 5 j + (if ro j = 5 then 1 else 0) = _
    rw [if_neg (by omega)]
    rfl
  have e6 : cn ro 6 (j + 1) = cn ro 6 j := by
    show cn ro 6 j + (if ro j = 6 then 1 else 0) = _
    rw [if_neg (by omega)]
    rfl
  have e7 : cn ro 7 (j + 1) = cn ro 7 j := by
    show cn ro 7 j + (if ro j = 7 then 1 else 0) = _
    rw [if_neg (by omega)]
    rfl
  have e9 : cn ro 9 (j + 1) = cn ro 9 j + 1 := by
    show cn ro 9 j + (if ro j = 9 then 1 else 0) = _
    rw [if_pos e]
  have e11 : cn ro 11 (j + 1) = cn ro 11 j := by
    show cn ro 11 j + (if ro j = 11 then 1 else 0) = _
    rw [if_neg (by omega)]
    rfl
  have c1 := x.c1
  have c2 := x.c2
  have c3 := x.c3
  have c4 := x.c4
  have n0 : (su f 5 (f 1 0 - 1) v) 0 0 = f 0 0 := su_ne (fun y => absurd y.1 (by decide))
  have n1 : (su f 5 (f 1 0 - 1) v) 1 0 = f 1 0 := su_ne (fun y => absurd y.1 (by decide))
  have n2 : (su f 5 (f 1 0 - 1) v) 2 0 = f 2 0 := su_ne (fun y => absurd y.1 (by decide))
  have n3 : (su f 5 (f 1 0 - 1) v) 3 0 = f 3 0 := su_ne (fun y => absurd y.1 (by decide))
  refine ⟨?_, ?_, ?_, ?_, ?_, ?_, ?_, ?_, ?_, ?_, ?_, ?_, ?_, ?_, ?_, ?_⟩
  · -- c1
    rw [n0, e1]
    omega
  · -- c2
    rw [n1, e2]
    omega
  · -- c3
    rw [n2, e3]
    omega
  · -- c4
    rw [n3, e4]
    omega
  · -- r5
    intro i hi
    rw [e5] at hi
    have qq : ∀ i, (su f 5 (f 1 0 - 1) v) 4 i = f 4 i := fun i => su_ne (fun y => absurd y.1 (by decide))
    rw [qq]
    have a := x.r5 i hi
    omega
  · -- r6
    intro i hi
    rw [e6] at hi
    have qq : ∀ i, (su f 5 (f 1 0 - 1) v) 9 i = f 9 i := fun i => su_ne (fun y => absurd y.1 (by decide))
    rw [qq]
    have a := x.r6 i hi
    omega
  · -- r9
    intro i hi
    rw [e9] at hi
    by_cases y : (i : Int) = (f 1 0 - 1)
    · rw [y, su_eq, n0]
      omega
    · rw [su_ne (fun w => y w.2), n0]
      have a := x.r9 i (by omega)
      exact a
  · -- r7
    intro i hi
    rw [e7] at hi
    have qq : ∀ i, (su f 5 (f 1 0 - 1) v) 6 i = f 6 i := fun i => su_ne (fun y => absurd y.1 (by decide))
    rw [qq]
    have a := x.r7 i hi
    omega
  · -- r11
    intro i hi
    rw [e11] at hi
    have qq : ∀ i, (su f 5 (f 1 0 - 1) v) 7 i = f 7 i := fun i => su_ne (fun y => absurd y.1 (by decide))
    rw [qq, n1]
    have a := x.r11 i hi
    omega
  · -- bg
    have qq : ∀ i, (su f 5 (f 1 0 - 1) v) 8 i = f 8 i := fun i => su_ne (fun y => absurd y.1 (by decide))
    rw [qq]
    exact x.bg
  · -- z
    have qq : ∀ i, (su f 5 (f 1 0 - 1) v) 10 i = f 10 i := fun i => su_ne (fun y => absurd y.1 (by decide))
    intro i
    rw [qq]
    exact x.z i
  · -- zz
    intro v2 p h0 h1 h2 h3 h4
    rw [n2, n1] at h4
    have qq : ∀ i, (su f 5 (f 1 0 - 1) v) 10 i = f 10 i := fun i => su_ne (fun y => absurd y.1 (by decide))
    rw [qq]
    exact x.zz v2 p h0 h1 h2 h3 (by omega)
  · -- m12
    intro k hk er
    have kj : k ≠ j := fun y => by
      rw [y] at er
      omega
    have qq : ∀ i, (su f 5 (f 1 0 - 1) v) 11 i = f 11 i := fun i => su_ne (fun y => absurd y.1 (by decide))
    rw [qq, n1]
    have a := x.m12 k (by omega) er
    omega
  · -- m13
    intro k hk er
    have kj : k ≠ j := fun y => by
      rw [y] at er
      omega
    have qq : ∀ i, (su f 5 (f 1 0 - 1) v) 11 i = f 11 i := fun i => su_ne (fun y => absurd y.1 (by decide))
    rw [qq, n2]
    have a := x.m13 k (by omega) er
    omega
  · -- m14
    intro k hk er
    have kj : k ≠ j := fun y => by
      rw [y] at er
      omega
    have qq : ∀ i, (su f 5 (f 1 0 - 1) v) 11 i = f 11 i := fun i => su_ne (fun y => absurd y.1 (by decide))
    rw [qq]
    have a := x.m14 k (by omega) er
    omega
  · -- mz
    intro k hk
    have qq : ∀ i, (su f 5 (f 1 0 - 1) v) 11 i = f 11 i := fun i => su_ne (fun y => absurd y.1 (by decide))
    rw [qq]
    exact x.mz k (by omega)
theorem FI.s10 (x : FI ro va f j) (g : RF kd ro va j) (e : ro j = 10) {v : Int} (hv : 0 ≤ v ∧ v < (cn ro 2 j : Int)) : FI ro va (su f 10 (12 * (f 2 0 - 1) + v) 1) (j + 1) := by
  obtain ⟨g0, g5, g6, g7, g9, g10, g11, g12, g13⟩ := g
  have e1 : cn ro 1 (j + 1) = cn ro 1 j := by
    show cn ro 1 j + (if ro j = 1 then 1 else 0) = _
    rw [if_neg (by omega)]
    rfl
  have e2 : cn ro 2 (j + 1) = cn ro 2 j := by
    show cn ro 2 j + (if ro j = 2 then 1 else 0) = _
    rw [if_neg (by omega)]
    rfl
  have e3 : cn ro 3 (j + 1) = cn ro 3 j := by
    show cn ro 3 j + (if ro j = 3 then 1 else 0) = _
    rw [if_neg (by omega)]
    rfl
  have e4 : cn ro 4 (j + 1) = cn ro 4 j := by
    show cn ro 4 j + (if ro j = 4 then 1 else 0) = _
    rw [if_neg (by omega)]
    rfl
  have e5 : cn ro 5 (j + 1) = cn ro 5 j := by
    show cn ro 5 j + (if ro j = 5 then 1 else 0) = _
    rw [if_neg (by omega)]
    rfl
  have e6 : cn ro 6 (j + 1) = cn ro 6 j := by
    show cn ro 6 j + (if ro j = 6 then 1 else 0) = _
    rw [if_neg (by omega)]
    rfl
  have e7 : cn ro 7 (j + 1) = cn ro 7 j := by
    show cn ro 7 j + (if ro j = 7 then 1 else 0) = _
    rw [if_neg (by omega)]
    rfl
  have e9 : cn ro 9 (j + 1) = cn ro 9 j := by
    show cn ro 9 j + (if ro j = 9 then 1 else 0) = _
    rw [if_neg (by omega)]
    rfl
  have e11 : cn ro 11 (j + 1) = cn ro 11 j := by
    show cn ro 11 j + (if ro j = 11 then 1 else 0) = _
    rw [if_neg (by omega)]
    rfl
  have c1 := x.c1
  have c2 := x.c2
  have c3 := x.c3
  have c4 := x.c4
  have n0 : (su f 10 (12 * (f 2 0 - 1) + v) 1) 0 0 = f 0 0 := su_ne (fun y => absurd y.1 (by decide))
  have n1 : (su f 10 (12 * (f 2 0 - 1) + v) 1) 1 0 = f 1 0 := su_ne (fun y => absurd y.1 (by decide))
  have n2 : (su f 10 (12 * (f 2 0 - 1) + v) 1) 2 0 = f 2 0 := su_ne (fun y => absurd y.1 (by decide))
  have n3 : (su f 10 (12 * (f 2 0 - 1) + v) 1) 3 0 = f 3 0 := su_ne (fun y => absurd y.1 (by decide))
  refine ⟨?_, ?_, ?_, ?_, ?_, ?_, ?_, ?_, ?_, ?_, ?_, ?_, ?_, ?_, ?_, ?_⟩
  · -- c1
    rw [n0, e1]
    omega
  · -- c2
    rw [n1, e2]
    omega
  · -- c3
    rw [n2, e3]
    omega
  · -- c4
    rw [n3, e4]
    omega
  · -- r5
    intro i hi
    rw [e5] at hi
    have qq : ∀ i, (su f 10 (12 * (f 2 0 - 1) + v) 1) 4 i = f 4 i := fun i => su_ne (fun y => absurd y.1 (by decide))
    rw [qq]
    have a := x.r5 i hi
    omega
  · -- r6
    intro i hi
    rw [e6] at hi
    have qq : ∀ i, (su f 10 (12 * (f 2 0 - 1) + v) 1) 9 i = f 9 i := fun i => su_ne (fun y => absurd y.1 (by decide))
    rw [qq]
    have a := x.r6 i hi
    omega
  · -- r9
    intro i hi
    rw [e9] at hi
    have qq : ∀ i, (su f 10 (12 * (f 2 0 - 1) + v) 1) 5 i = f 5 i := fun i => su_ne (fun y => absurd y.1 (by decide))
    rw [qq, n0]
    have a := x.r9 i hi
    omega
  · -- r7
    intro i hi
    rw [e7] at hi
    have qq : ∀ i, (su f 10 (12 * (f 2 0 - 1) + v) 1) 6 i = f 6 i := fun i => su_ne (fun y => absurd y.1 (by decide))
    rw [qq]
    have a := x.r7 i hi
    omega
  · -- r11
    intro i hi
    rw [e11] at hi
    have qq : ∀ i, (su f 10 (12 * (f 2 0 - 1) + v) 1) 7 i = f 7 i := fun i => su_ne (fun y => absurd y.1 (by decide))
    rw [qq, n1]
    have a := x.r11 i hi
    omega
  · -- bg
    have qq : ∀ i, (su f 10 (12 * (f 2 0 - 1) + v) 1) 8 i = f 8 i := fun i => su_ne (fun y => absurd y.1 (by decide))
    rw [qq]
    exact x.bg
  · -- z
    intro i
    by_cases y : i = 12 * (f 2 0 - 1) + v
    · rw [y, su_eq]
      exact Or.inr rfl
    · rw [su_ne (fun w => y w.2)]
      exact x.z i
  · -- zz
    intro v2 p h0 h1 h2 h3 h4
    rw [n2, n1] at h4
    rw [su_ne (fun w => by have := w.2; omega)]
    exact x.zz v2 p h0 h1 h2 h3 h4
  · -- m12
    intro k hk er
    have kj : k ≠ j := fun y => by
      rw [y] at er
      omega
    have qq : ∀ i, (su f 10 (12 * (f 2 0 - 1) + v) 1) 11 i = f 11 i := fun i => su_ne (fun y => absurd y.1 (by decide))
    rw [qq, n1]
    have a := x.m12 k (by omega) er
    omega
  · -- m13
    intro k hk er
    have kj : k ≠ j := fun y => by
      rw [y] at er
      omega
    have qq : ∀ i, (su f 10 (12 * (f 2 0 - 1) + v) 1) 11 i = f 11 i := fun i => su_ne (fun y => absurd y.1 (by decide))
    rw [qq, n2]
    have a := x.m13 k (by omega) er
    omega
  · -- m14
    intro k hk er
    have kj : k ≠ j := fun y => by
      rw [y] at er
      omega
    have qq : ∀ i, (su f 10 (12 * (f 2 0 - 1) + v) 1) 11 i = f 11 i := fun i => su_ne (fun y => absurd y.1 (by decide))
    rw [qq]
    have a := x.m14 k (by omega) er
    omega
  · -- mz
    intro k hk
    have qq : ∀ i, (su f 10 (12 * (f 2 0 - 1) + v) 1) 11 i = f 11 i := fun i => su_ne (fun y => absurd y.1 (by decide))
    rw [qq]
    exact x.mz k (by omega)
theorem FI.s11 (x : FI ro va f j) (g : RF kd ro va j) (e : ro j = 11) {v : Int} (hv : 0 ≤ v ∧ v < (cn ro 2 j : Int)) : FI ro va (su f 7 (f 3 0 - 1) v) (j + 1) := by
  obtain ⟨g0, g5, g6, g7, g9, g10, g11, g12, g13⟩ := g
  have e1 : cn ro 1 (j + 1) = cn ro 1 j := by
    show cn ro 1 j + (if ro j = 1 then 1 else 0) = _
    rw [if_neg (by omega)]
    rfl
  have e2 : cn ro 2 (j + 1) = cn ro 2 j := by
    show cn ro 2 j + (if ro j = 2 then 1 else 0) = _
    rw [if_neg (by omega)]
    rfl
  have e3 : cn ro 3 (j + 1) = cn ro 3 j := by
    show cn ro 3 j + (if ro j = 3 then 1 else 0) = _
    rw [if_neg (by omega)]
    rfl
  have e4 : cn ro 4 (j + 1) = cn ro 4 j := by
    show cn ro 4 j + (if ro j = 4 then 1 else 0) = _
    rw [if_neg (by omega)]
    rfl
  have e5 : cn ro 5 (j + 1) = cn ro 5 j := by
    show cn ro 5 j + (if ro j = 5 then 1 else 0) = _
    rw [if_neg (by omega)]
    rfl
  have e6 : cn ro 6 (j + 1) = cn ro 6 j := by
    show cn ro 6 j + (if ro j = 6 then 1 else 0) = _
    rw [if_neg (by omega)]
    rfl
  have e7 : cn ro 7 (j + 1) = cn ro 7 j := by
    show cn ro 7 j + (if ro j = 7 then 1 else 0) = _
    rw [if_neg (by omega)]
    rfl
  have e9 : cn ro 9 (j + 1) = cn ro 9 j := by
    show cn ro 9 j + (if ro j = 9 then 1 else 0) = _
    rw [if_neg (by omega)]
    rfl
  have e11 : cn ro 11 (j + 1) = cn ro 11 j + 1 := by
    show cn ro 11 j + (if ro j = 11 then 1 else 0) = _
    rw [if_pos e]
  have c1 := x.c1
  have c2 := x.c2
  have c3 := x.c3
  have c4 := x.c4
  have n0 : (su f 7 (f 3 0 - 1) v) 0 0 = f 0 0 := su_ne (fun y => absurd y.1 (by decide))
  have n1 : (su f 7 (f 3 0 - 1) v) 1 0 = f 1 0 := su_ne (fun y => absurd y.1 (by decide))
  have n2 : (su f 7 (f 3 0 - 1) v) 2 0 = f 2 0 := su_ne (fun y => absurd y.1 (by decide))
  have n3 : (su f 7 (f 3 0 - 1) v) 3 0 = f 3 0 := su_ne (fun y => absurd y.1 (by decide))
  refine ⟨?_, ?_, ?_, ?_, ?_, ?_, ?_, ?_, ?_, ?_, ?_, ?_, ?_, ?_, ?_, ?_⟩
  · -- c1
    rw [n0, e1]
    omega
  · -- c2
    rw [n1, e2]
    omega
  · -- c3
    rw [n2, e3]
    omega
  · -- c4
    rw [n3, e4]
    omega
  · -- r5
    intro i hi
    rw [e5] at hi
    have qq : ∀ i, (su f 7 (f 3 0 - 1) v) 4 i = f 4 i := fun i => su_ne (fun y => absurd y.1 (by decide))
    rw [qq]
    have a := x.r5 i hi
    omega
  · -- r6
    intro i hi
    rw [e6] at hi
    have qq : ∀ i, (su f 7 (f 3 0 - 1) v) 9 i = f 9 i := fun i => su_ne (fun y => absurd y.1 (by decide))
    rw [qq]
    have a := x.r6 i hi
    omega
  · -- r9
    intro i hi
    rw [e9] at hi
    have qq : ∀ i, (su f 7 (f 3 0 - 1) v) 5 i = f 5 i := fun i => su_ne (fun y => absurd y.1 (by decide))
    rw [qq, n0]
    have a := x.r9 i hi
    omega
  · -- r7
    intro i hi
    rw [e7] at hi
    have qq : ∀ i, (su f 7 (f 3 0 - 1) v) 6 i = f 6 i := fun i => su_ne (fun y => absurd y.1 (by decide))
    rw [qq]
    have a := x.r7 i hi
    omega
  · -- r11
    intro i hi
    rw [e11] at hi
    by_cases y : (i : Int) = (f 3 0 - 1)
    · rw [y, su_eq, n1]
      omega
    · rw [su_ne (fun w => y w.2), n1]
      have a := x.r11 i (by omega)
      exact a
  · -- bg
    have qq : ∀ i, (su f 7 (f 3 0 - 1) v) 8 i = f 8 i := fun i => su_ne (fun y => absurd y.1 (by decide))
    rw [qq]
    exact x.bg
  · -- z
    have qq : ∀ i, (su f 7 (f 3 0 - 1) v) 10 i = f 10 i := fun i => su_ne (fun y => absurd y.1 (by decide))
    intro i
    rw [qq]
    exact x.z i
  · -- zz
    intro v2 p h0 h1 h2 h3 h4
    rw [n2, n1] at h4
    have qq : ∀ i, (su f 7 (f 3 0 - 1) v) 10 i = f 10 i := fun i => su_ne (fun y => absurd y.1 (by decide))
    rw [qq]
    exact x.zz v2 p h0 h1 h2 h3 (by omega)
  · -- m12
    intro k hk er
    have kj : k ≠ j := fun y => by
      rw [y] at er
      omega
    have qq : ∀ i, (su f 7 (f 3 0 - 1) v) 11 i = f 11 i := fun i => su_ne (fun y => absurd y.1 (by decide))
    rw [qq, n1]
    have a := x.m12 k (by omega) er
    omega
  · -- m13
    intro k hk er
    have kj : k ≠ j := fun y => by
      rw [y] at er
      omega
    have qq : ∀ i, (su f 7 (f 3 0 - 1) v) 11 i = f 11 i := fun i => su_ne (fun y => absurd y.1 (by decide))
    rw [qq, n2]
    have a := x.m13 k (by omega) er
    omega
  · -- m14
    intro k hk er
    have kj : k ≠ j := fun y => by
      rw [y] at er
      omega
    have qq : ∀ i, (su f 7 (f 3 0 - 1) v) 11 i = f 11 i := fun i => su_ne (fun y => absurd y.1 (by decide))
    rw [qq]
    have a := x.m14 k (by omega) er
    omega
  · -- mz
    intro k hk
    have qq : ∀ i, (su f 7 (f 3 0 - 1) v) 11 i = f 11 i := fun i => su_ne (fun y => absurd y.1 (by decide))
    rw [qq]
    exact x.mz k (by omega)
theorem FI.s12 (x : FI ro va f j) (g : RF kd ro va j) (e : ro j = 12) {v : Int} (hv : 0 ≤ v ∧ v < (cn ro 2 j : Int)) : FI ro va (su f 11 (j : Int) v) (j + 1) := by
  obtain ⟨g0, g5, g6, g7, g9, g10, g11, g12, g13⟩ := g
  have e1 : cn ro 1 (j + 1) = cn ro 1 j := by
    show cn ro 1 j + (if ro j = 1 then 1 else 0) = _
    rw [if_neg (by omega)]
    rfl
  have e2 : cn ro 2 (j + 1) = cn ro 2 j := by
    show cn ro 2 j + (if ro j = 2 then 1 else 0) = _
    rw [if_neg (by omega)]
    rfl
  have e3 : cn ro 3 (j + 1) = cn ro 3 j := by
    show cn ro 3 j + (if ro j = 3 then 1 else 0) = _
    rw [if_neg (by omega)]
    rfl
  have e4 : cn ro 4 (j + 1) = cn ro 4 j := by
    show cn ro 4 j + (if ro j = 4 then 1 else 0) = _
    rw [if_neg (by omega)]
    rfl
  have e5 : cn ro 5 (j + 1) = cn ro 5 j := by
    show cn ro 5 j + (if ro j = 5 then 1 else 0) = _
    rw [if_neg (by omega)]
    rfl
  have e6 : cn ro 6 (j + 1) = cn ro 6 j := by
    show cn ro 6 j + (if ro j = 6 then 1 else 0) = _
    rw [if_neg (by omega)]
    rfl
  have e7 : cn ro 7 (j + 1) = cn ro 7 j := by
    show cn ro 7 j + (if ro j = 7 then 1 else 0) = _
    rw [if_neg (by omega)]
    rfl
  have e9 : cn ro 9 (j + 1) = cn ro 9 j := by
    show cn ro 9 j + (if ro j = 9 then 1 else 0) = _
    rw [if_neg (by omega)]
    rfl
  have e11 : cn ro 11 (j + 1) = cn ro 11 j := by
    show cn ro 11 j + (if ro j = 11 then 1 else 0) = _
    rw [if_neg (by omega)]
    rfl
  have c1 := x.c1
  have c2 := x.c2
  have c3 := x.c3
  have c4 := x.c4
  have n0 : (su f 11 (j : Int) v) 0 0 = f 0 0 := su_ne (fun y => absurd y.1 (by decide))
  have n1 : (su f 11 (j : Int) v) 1 0 = f 1 0 := su_ne (fun y => absurd y.1 (by decide))
  have n2 : (su f 11 (j : Int) v) 2 0 = f 2 0 := su_ne (fun y => absurd y.1 (by decide))
  have n3 : (su f 11 (j : Int) v) 3 0 = f 3 0 := su_ne (fun y => absurd y.1 (by decide))
  refine ⟨?_, ?_, ?_, ?_, ?_, ?_, ?_, ?_, ?_, ?_, ?_, ?_, ?_, ?_, ?_, ?_⟩
  · -- c1
    rw [n0, e1]
    omega
  · -- c2
    rw [n1, e2]
    omega
  · -- c3
    rw [n2, e3]
    omega
  · -- c4
    rw [n3, e4]
    omega
  · -- r5
    intro i hi
    rw [e5] at hi
    have qq : ∀ i, (su f 11 (j : Int) v) 4 i = f 4 i := fun i => su_ne (fun y => absurd y.1 (by decide))
    rw [qq]
    have a := x.r5 i hi
    omega
  · -- r6
    intro i hi
    rw [e6] at hi
    have qq : ∀ i, (su f 11 (j : Int) v) 9 i = f 9 i := fun i => su_ne (fun y => absurd y.1 (by decide))
    rw [qq]
    have a := x.r6 i hi
    omega
  · -- r9
    intro i hi
    rw [e9] at hi
    have qq : ∀ i, (su f 11 (j : Int) v) 5 i = f 5 i := fun i => su_ne (fun y => absurd y.1 (by decide))
    rw [qq, n0]
    have a := x.r9 i hi
    omega
  · -- r7
    intro i hi
    rw [e7] at hi
    have qq : ∀ i, (su f 11 (j : Int) v) 6 i = f 6 i := fun i => su_ne (fun y => absurd y.1 (by decide))
    rw [qq]
    have a := x.r7 i hi
    omega
  · -- r11
    intro i hi
    rw [e11] at hi
    have qq : ∀ i, (su f 11 (j : Int) v) 7 i = f 7 i := fun i => su_ne (fun y => absurd y.1 (by decide))
    rw [qq, n1]
    have a := x.r11 i hi
    omega
  · -- bg
    have qq : ∀ i, (su f 11 (j : Int) v) 8 i = f 8 i := fun i => su_ne (fun y => absurd y.1 (by decide))
    rw [qq]
    exact x.bg
  · -- z
    have qq : ∀ i, (su f 11 (j : Int) v) 10 i = f 10 i := fun i => su_ne (fun y => absurd y.1 (by decide))
    intro i
    rw [qq]
    exact x.z i
  · -- zz
    intro v2 p h0 h1 h2 h3 h4
    rw [n2, n1] at h4
    have qq : ∀ i, (su f 11 (j : Int) v) 10 i = f 10 i := fun i => su_ne (fun y => absurd y.1 (by decide))
    rw [qq]
    exact x.zz v2 p h0 h1 h2 h3 (by omega)
  · -- m12
    intro k hk er
    by_cases y : k = j
    · rw [y, su_eq, n1]
      omega
    · rw [su_ne (fun w => y (by have := w.2; omega)), n1]
      exact x.m12 k (by omega) er
  · -- m13
    intro k hk er
    have kj : k ≠ j := fun y => by
      rw [y] at er
      omega
    rw [su_ne (fun w => kj (by have := w.2; omega)), n2]
    have a := x.m13 k (by omega) er
    omega
  · -- m14
    intro k hk er
    have kj : k ≠ j := fun y => by
      rw [y] at er
      omega
    rw [su_ne (fun w => kj (by have := w.2; omega))]
    have a := x.m14 k (by omega) er
    omega
  · -- mz
    intro k hk
    rw [su_ne (fun w => by have := w.2; omega)]
    exact x.mz k (by omega)
theorem FI.s13 (x : FI ro va f j) (g : RF kd ro va j) (e : ro j = 13) {v : Int} (hv : 0 ≤ v ∧ v < (cn ro 3 j : Int)) : FI ro va (su f 11 (j : Int) v) (j + 1) := by
  obtain ⟨g0, g5, g6, g7, g9, g10, g11, g12, g13⟩ := g
  have e1 : cn ro 1 (j + 1) = cn ro 1 j := by
    show cn ro 1 j + (if ro j = 1 then 1 else 0) = _
    rw [if_neg (by omega)]
    rfl
  have e2 : cn ro 2 (j + 1) = cn ro 2 j := by
    show cn ro 2 j + (if ro j = 2 then 1 else 0) = _
    rw [if_neg (by omega)]
    rfl
  have e3 : cn ro 3 (j + 1) = cn ro 3 j := by
    show cn ro 3 j + (if ro j = 3 then 1 else 0) = _
    rw [if_neg (by omega)]
    rfl
  have e4 : cn ro 4 (j + 1) = cn ro 4 j := by
    show cn ro 4 j + (if ro j = 4 then 1 else 0) = _
    rw [if_neg (by omega)]
    rfl
  have e5 : cn ro 5 (j + 1) = cn ro 5 j := by
    show cn ro 5 j + (if ro j = 5 then 1 else 0) = _
    rw [if_neg (by omega)]
    rfl
  have e6 : cn ro 6 (j + 1) = cn ro 6 j := by
    show cn ro 6 j + (if ro j = 6 then 1 else 0) = _
    rw [if_neg (by omega)]
    rfl
  have e7 : cn ro 7 (j + 1) = cn ro 7 j := by
    show cn ro 7 j + (if ro j = 7 then 1 else 0) = _
    rw [if_neg (by omega)]
    rfl
  have e9 : cn ro 9 (j + 1) = cn ro 9 j := by
    show cn ro 9 j + (if ro j = 9 then 1 else 0) = _
    rw [if_neg (by omega)]
    rfl
  have e11 : cn ro 11 (j + 1) = cn ro 11 j := by
    show cn ro 11 j + (if ro j = 11 then 1 else 0) = _
    rw [if_neg (by omega)]
    rfl
  have c1 := x.c1
  have c2 := x.c2
  have c3 := x.c3
  have c4 := x.c4
  have n0 : (su f 11 (j : Int) v) 0 0 = f 0 0 := su_ne (fun y => absurd y.1 (by decide))
  have n1 : (su f 11 (j : Int) v) 1 0 = f 1 0 := su_ne (fun y => absurd y.1 (by decide))
  have n2 : (su f 11 (j : Int) v) 2 0 = f 2 0 := su_ne (fun y => absurd y.1 (by decide))
  have n3 : (su f 11 (j : Int) v) 3 0 = f 3 0 := su_ne (fun y => absurd y.1 (by decide))
  refine ⟨?_, ?_, ?_, ?_, ?_, ?_, ?_, ?_, ?_, ?_, ?_, ?_, ?_, ?_, ?_, ?_⟩
  · -- c1
    rw [n0, e1]
    omega
  · -- c2
    rw [n1, e2]
    omega
  · -- c3
    rw [n2, e3]
    omega
  · -- c4
    rw [n3, e4]
    omega
  · -- r5
    intro i hi
    rw [e5] at hi
    have qq : ∀ i, (su f 11 (j : Int) v) 4 i = f 4 i := fun i => su_ne (fun y => absurd y.1 (by decide))
    rw [qq]
    have a := x.r5 i hi
    omega
  · -- r6
    intro i hi
    rw [e6] at hi
    have qq : ∀ i, (su f 11 (j : Int) v) 9 i = f 9 i := fun i => su_ne (fun y => absurd y.1 (by decide))
    rw [qq]
    have a := x.r6 i hi
    omega
  · -- r9
    intro i hi
    rw [e9] at hi
    have qq : ∀ i, (su f 11 (j : Int) v) 5 i = f 5 i := fun i => su_ne (fun y => absurd y.1 (by decide))
    rw [qq, n0]
    have a := x.r9 i hi
    omega
  · -- r7
    intro i hi
    rw [e7] at hi
    have qq : ∀ i, (su f 11 (j : Int) v) 6 i = f 6 i := fun i => su_ne (fun y => absurd y.1 (by decide))
    rw [qq]
    have a := x.r7 i hi
    omega
  · -- r11
    intro i hi
    rw [e11] at hi
    have qq : ∀ i, (su f 11 (j : Int) v) 7 i = f 7 i := fun i => su_ne (fun y => absurd y.1 (by decide))
    rw [qq, n1]
    have a := x.r11 i hi
    omega
  · -- bg
    have qq : ∀ i, (su f 11 (j : Int) v) 8 i = f 8 i := fun i => su_ne (fun y => absurd y.1 (by decide))
    rw [qq]
    exact x.bg
  · -- z
    have qq : ∀ i, (su f 11 (j : Int) v) 10 i = f 10 i := fun i => su_ne (fun y => absurd y.1 (by decide))
    intro i
    rw [qq]
    exact x.z i
  · -- zz
    intro v2 p h0 h1 h2 h3 h4
    rw [n2, n1] at h4
    have qq : ∀ i, (su f 11 (j : Int) v) 10 i = f 10 i := fun i => su_ne (fun y => absurd y.1 (by decide))
    rw [qq]
    exact x.zz v2 p h0 h1 h2 h3 (by omega)
  · -- m12
    intro k hk er
    have kj : k ≠ j := fun y => by
      rw [y] at er
      omega
    rw [su_ne (fun w => kj (by have := w.2; omega)), n1]
    have a := x.m12 k (by omega) er
    omega
  · -- m13
    intro k hk er
    by_cases y : k = j
    · rw [y, su_eq, n2]
      omega
    · rw [su_ne (fun w => y (by have := w.2; omega)), n2]
      exact x.m13 k (by omega) er
  · -- m14
    intro k hk er
    have kj : k ≠ j := fun y => by
      rw [y] at er
      omega
    rw [su_ne (fun w => kj (by have := w.2; omega))]
    have a := x.m14 k (by omega) er
    omega
  · -- mz
    intro k hk
    rw [su_ne (fun w => by have := w.2; omega)]
    exact x.mz k (by omega)
theorem FI.s14 (x : FI ro va f j) (g : RF kd ro va j) (e : ro j = 14) {v : Int} (hv : v = va j) : FI ro va (su f 11 (j : Int) v) (j + 1) := by
  obtain ⟨g0, g5, g6, g7, g9, g10, g11, g12, g13⟩ := g
  have e1 : cn ro 1 (j + 1) = cn ro 1 j := by
    show cn ro 1 j + (if ro j = 1 then 1 else 0) = _
    rw [if_neg (by omega)]
    rfl
  have e2 : cn ro 2 (j + 1) = cn ro 2 j := by
    show cn ro 2 j + (if ro j = 2 then 1 else 0) = _
    rw [if_neg (by omega)]
    rfl
  have e3 : cn ro 3 (j + 1) = cn ro 3 j := by
    show cn ro 3 j + (if ro j = 3 then 1 else 0) = _
    rw [if_neg (by omega)]
    rfl
  have e4 : cn ro 4 (j + 1) = cn ro 4 j := by
    show cn ro 4 j + (if ro j = 4 then 1 else 0) = _
    rw [if_neg (by omega)]
    rfl
  have e5 : cn ro 5 (j + 1) = cn ro 5 j := by
    show cn ro 5 j + (if ro j = 5 then 1 else 0) = _
    rw [if_neg (by omega)]
    rfl
  have e6 : cn ro 6 (j + 1) = cn ro 6 j := by
    show cn ro 6 j + (if ro j = 6 then 1 else 0) = _
    rw [if_neg (by omega)]
    rfl
  have e7 : cn ro 7 (j + 1) = cn ro 7 j := by
    show cn ro 7 j + (if ro j = 7 then 1 else 0) = _
    rw [if_neg (by omega)]
    rfl
  have e9 : cn ro 9 (j + 1) = cn ro 9 j := by
    show cn ro 9 j + (if ro j = 9 then 1 else 0) = _
    rw [if_neg (by omega)]
    rfl
  have e11 : cn ro 11 (j + 1) = cn ro 11 j := by
    show cn ro 11 j + (if ro j = 11 then 1 else 0) = _
    rw [if_neg (by omega)]
    rfl
  have c1 := x.c1
  have c2 := x.c2
  have c3 := x.c3
  have c4 := x.c4
  have n0 : (su f 11 (j : Int) v) 0 0 = f 0 0 := su_ne (fun y => absurd y.1 (by decide))
  have n1 : (su f 11 (j : Int) v) 1 0 = f 1 0 := su_ne (fun y => absurd y.1 (by decide))
  have n2 : (su f 11 (j : Int) v) 2 0 = f 2 0 := su_ne (fun y => absurd y.1 (by decide))
  have n3 : (su f 11 (j : Int) v) 3 0 = f 3 0 := su_ne (fun y => absurd y.1 (by decide))
  refine ⟨?_, ?_, ?_, ?_, ?_, ?_, ?_, ?_, ?_, ?_, ?_, ?_, ?_, ?_, ?_, ?_⟩
  · -- c1
    rw [n0, e1]
    omega
  · -- c2
    rw [n1, e2]
    omega
  · -- c3
    rw [n2, e3]
    omega
  · -- c4
    rw [n3, e4]
    omega
  · -- r5
    intro i hi
    rw [e5] at hi
    have qq : ∀ i, (su f 11 (j : Int) v) 4 i = f 4 i := fun i => su_ne (fun y => absurd y.1 (by decide))
    rw [qq]
    have a := x.r5 i hi
    omega
  · -- r6
    intro i hi
    rw [e6] at hi
    have qq : ∀ i, (su f 11 (j : Int) v) 9 i = f 9 i := fun i => su_ne (fun y => absurd y.1 (by decide))
    rw [qq]
    have a := x.r6 i hi
    omega
  · -- r9
    intro i hi
    rw [e9] at hi
    have qq : ∀ i, (su f 11 (j : Int) v) 5 i = f 5 i := fun i => su_ne (fun y => absurd y.1 (by decide))
    rw [qq, n0]
    have a := x.r9 i hi
    omega
  · -- r7
    intro i hi
    rw [e7] at hi
    have qq : ∀ i, (su f 11 (j : Int) v) 6 i = f 6 i := fun i => su_ne (fun y => absurd y.1 (by decide))
    rw [qq]
    have a := x.r7 i hi
    omega
  · -- r11
    intro i hi
    rw [e11] at hi
    have qq : ∀ i, (su f 11 (j : Int) v) 7 i = f 7 i := fun i => su_ne (fun y => absurd y.1 (by decide))
    rw [qq, n1]
    have a := x.r11 i hi
    omega
  · -- bg
    have qq : ∀ i, (su f 11 (j : Int) v) 8 i = f 8 i := fun i => su_ne (fun y => absurd y.1 (by decide))
    rw [qq]
    exact x.bg
  · -- z
    have qq : ∀ i, (su f 11 (j : Int) v) 10 i = f 10 i := fun i => su_ne (fun y => absurd y.1 (by decide))
    intro i
    rw [qq]
    exact x.z i
  · -- zz
    intro v2 p h0 h1 h2 h3 h4
    rw [n2, n1] at h4
    have qq : ∀ i, (su f 11 (j : Int) v) 10 i = f 10 i := fun i => su_ne (fun y => absurd y.1 (by decide))
    rw [qq]
    exact x.zz v2 p h0 h1 h2 h3 (by omega)
  · -- m12
    intro k hk er
    have kj : k ≠ j := fun y => by
      rw [y] at er
      omega
    rw [su_ne (fun w => kj (by have := w.2; omega)), n1]
    have a := x.m12 k (by omega) er
    omega
  · -- m13
    intro k hk er
    have kj : k ≠ j := fun y => by
      rw [y] at er
      omega
    rw [su_ne (fun w => kj (by have := w.2; omega)), n2]
    have a := x.m13 k (by omega) er
    omega
  · -- m14
    intro k hk er
    by_cases y : k = j
    · rw [y, su_eq]
      omega
    · rw [su_ne (fun w => y (by have := w.2; omega))]
      exact x.m14 k (by omega) er
  · -- mz
    intro k hk
    rw [su_ne (fun w => by have := w.2; omega)]
    exact x.mz k (by omega)
theorem FI.s0 (x : FI ro va f j) (g : RF kd ro va j) (e : ro j = 0 ∨ 14 < ro j ∨ ro j < 0)  : FI ro va (f) (j + 1) := by
  obtain ⟨g0, g5, g6, g7, g9, g10, g11, g12, g13⟩ := g
  have e1 : cn ro 1 (j + 1) = cn ro 1 j := by
    show cn ro 1 j + (if ro j = 1 then 1 else 0) = _
    rw [if_neg (by omega)]
    rfl
  have e2 : cn ro 2 (j + 1) = cn ro 2 j := by
    show cn ro 2 j + (if ro j = 2 then 1 else 0) = _
    rw [if_neg (by omega)]
    rfl
  have e3 : cn ro 3 (j + 1) = cn ro 3 j := by
    show cn ro 3 j + (if ro j = 3 then 1 else 0) = _
    rw [if_neg (by omega)]
    rfl
  have e4 : cn ro 4 (j + 1) = cn ro 4 j := by
    show cn ro 4 j + (if ro j = 4 then 1 else 0) = _
    rw [if_neg (by omega)]
    rfl
  have e5 : cn ro 5 (j + 1) = cn ro 5 j := by
    show cn ro 5 j + (if ro j = 5 then 1 else 0) = _
    rw [if_neg (by omega)]
    rfl
  have e6 : cn ro 6 (j + 1) = cn ro 6 j := by
    show cn ro 6 j + (if ro j = 6 then 1 else 0) = _
    rw [if_neg (by omega)]
    rfl
  have e7 : cn ro 7 (j + 1) = cn ro 7 j := by
    show cn ro 7 j + (if ro j = 7 then 1 else 0) = _
    rw [if_neg (by omega)]
    rfl
  have e9 : cn ro 9 (j + 1) = cn ro 9 j := by
    show cn ro 9 j + (if ro j = 9 then 1 else 0) = _
    rw [if_neg (by omega)]
    rfl
  have e11 : cn ro 11 (j + 1) = cn ro 11 j := by
    show cn ro 11 j + (if ro j = 11 then 1 else 0) = _
    rw [if_neg (by omega)]
    rfl
  have c1 := x.c1
  have c2 := x.c2
  have c3 := x.c3
  have c4 := x.c4
  refine ⟨?_, ?_, ?_, ?_, ?_, ?_, ?_, ?_, ?_, ?_, ?_, ?_, ?_, ?_, ?_, ?_⟩
  · -- c1
    rw [e1]
    omega
  · -- c2
    rw [e2]
    omega
  · -- c3
    rw [e3]
    omega
  · -- c4
    rw [e4]
    omega
  · -- r5
    intro i hi
    rw [e5] at hi
    have a := x.r5 i hi
    omega
  · -- r6
    intro i hi
    rw [e6] at hi
    have a := x.r6 i hi
    omega
  · -- r9
    intro i hi
    rw [e9] at hi
    have a := x.r9 i hi
    omega
  · -- r7
    intro i hi
    rw [e7] at hi
    have a := x.r7 i hi
    omega
  · -- r11
    intro i hi
    rw [e11] at hi
    have a := x.r11 i hi
    omega
  · -- bg
    exact x.bg
  · -- z
    exact x.z
  · -- zz
    intro v2 p h0 h1 h2 h3 h4
    exact x.zz v2 p h0 h1 h2 h3 h4
  · -- m12
    intro k hk er
    have kj : k ≠ j := fun y => by
      rw [y] at er
      omega
    have a := x.m12 k (by omega) er
    omega
  · -- m13
    intro k hk er
    have kj : k ≠ j := fun y => by
      rw [y] at er
      omega
    have a := x.m13 k (by omega) er
    omega
  · -- m14
    intro k hk er
    have kj : k ≠ j := fun y => by
      rw [y] at er
      omega
    have a := x.m14 k (by omega) er
    omega
  · -- mz
    intro k hk
    exact x.mz k (by omega)
theorem nzz {P : Prop} {c : Int} {f : TT} (h : (c, f).1 = 0) (hc : c ≠ 0) : P := absurd h hc
theorem FI.go (x : FI ro va f j) (g : RF kd ro va j) (h : (stp ro va f j).1 = 0) : FI ro va (stp ro va f j).2 (j + 1) := by
  have g8 := g.2.2.2.2.2.2.2.2
  have c1 := x.c1
  have c2 := x.c2
  have c3 := x.c3
  unfold stp at h ⊢
  by_cases e1 : ro j = 1
  · rw [if_pos e1] at h ⊢
    split at h
    · rename_i z
      rw [if_pos z]
      split at h
      · exact nzz h (by decide)
      · rename_i z2
        rw [if_neg z2]
        exact x.s1 g e1 z2
    · exact nzz h (by decide)
  rw [if_neg e1] at h ⊢
  by_cases e2 : ro j = 2
  · rw [if_pos e2] at h ⊢
    split at h
    · rename_i z
      rw [if_pos z]
      split at h
      · exact nzz h (by decide)
      · rename_i z2
        rw [if_neg z2]
        exact x.s2 g e2 z2
    · exact nzz h (by decide)
  rw [if_neg e2] at h ⊢
  by_cases e3 : ro j = 3
  · rw [if_pos e3] at h ⊢
    split at h
    · rename_i z
      rw [if_pos z]
      split at h
      · exact nzz h (by decide)
      · rename_i z2
        rw [if_neg z2]
        exact x.s3 g e3 z2
    · exact nzz h (by decide)
  rw [if_neg e3] at h ⊢
  by_cases e4 : ro j = 4
  · rw [if_pos e4] at h ⊢
    split at h
    · exact nzz h (by decide)
    · rename_i z2
      rw [if_neg z2]
      exact x.s4 g e4 z2
  rw [if_neg e4] at h ⊢
  by_cases e5 : ro j = 5
  · rw [if_pos e5] at h ⊢
    split at h
    · rename_i z
      rw [if_pos z]
      exact x.s5 g e5 z
    · exact nzz h (by decide)
  rw [if_neg e5] at h ⊢
  by_cases e6 : ro j = 6
  · rw [if_pos e6] at h ⊢
    split at h
    · rename_i z
      rw [if_pos z]
      exact x.s6 g e6 z
    · exact nzz h (by decide)
  rw [if_neg e6] at h ⊢
  by_cases e7 : ro j = 7
  · rw [if_pos e7] at h ⊢
    split at h
    · rename_i z
      rw [if_pos z]
      exact x.s7 g e7 z
    · exact nzz h (by decide)
  rw [if_neg e7] at h ⊢
  by_cases e8 : ro j = 8
  · rw [if_pos e8] at h ⊢
    split at h
    · rename_i z
      rw [if_pos z]
      exact x.s8 g e8 ⟨(g8 (Or.inl (by omega))).2.1, z⟩
    · exact nzz h (by decide)
  rw [if_neg e8] at h ⊢
  by_cases e9 : ro j = 9
  · rw [if_pos e9] at h ⊢
    have rg := tol_rg (ro := ro) (va := va) (as := 1) (j := j)
    split at h
    · exact nzz h (by decide)
    · rename_i z
      rw [if_neg z]
      exact x.s9 g e9 (by omega)
  rw [if_neg e9] at h ⊢
  by_cases e10 : ro j = 10
  · rw [if_pos e10] at h ⊢
    have rg := tol_rg (ro := ro) (va := va) (as := 2) (j := j)
    split at h
    · exact nzz h (by decide)
    · rename_i z
      rw [if_neg z]
      split at h
      · exact nzz h (by decide)
      · rename_i z2
        rw [if_neg z2]
        exact x.s10 g e10 (by omega)
  rw [if_neg e10] at h ⊢
  by_cases e11 : ro j = 11
  · rw [if_pos e11] at h ⊢
    have rg := tol_rg (ro := ro) (va := va) (as := 2) (j := j)
    split at h
    · exact nzz h (by decide)
    · rename_i z
      rw [if_neg z]
      exact x.s11 g e11 (by omega)
  rw [if_neg e11] at h ⊢
  by_cases e12 : ro j = 12
  · rw [if_pos e12] at h ⊢
    have rg := tol_rg (ro := ro) (va := va) (as := 2) (j := j)
    split at h
    · exact nzz h (by decide)
    · rename_i z
      rw [if_neg z]
      exact x.s12 g e12 (by omega)
  rw [if_neg e12] at h ⊢
  by_cases e13 : ro j = 13
  · rw [if_pos e13] at h ⊢
    have rg := tol_rg (ro := ro) (va := va) (as := 3) (j := j)
    split at h
    · exact nzz h (by decide)
    · rename_i z
      rw [if_neg z]
      exact x.s13 g e13 (by omega)
  rw [if_neg e13] at h ⊢
  by_cases e14 : ro j = 14
  · rw [if_pos e14]
    exact x.s14 g e14 rfl
  rw [if_neg e14]
  have g0 := g.1
  exact x.s0 g (by omega)
end
