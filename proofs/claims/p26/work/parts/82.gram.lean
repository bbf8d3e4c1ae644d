/-! ===== the grammar, as a function over kinds of tokens: where it is wrong, or where it ends, the operations, the roles ===== -/
abbrev PR : Type := Sum Nat (Nat × List Op × List Int)
abbrev GF : Type := Nat → PR
def bnd (r : PR) (f : GF) : PR := match r with
  | .inl j => .inl j
  | .inr (j, s, t) => match f j with
    | .inl k => .inl k
    | .inr (k, s2, t2) => .inr (k, s ++ s2, t ++ t2)
def tk (kd : Nat → Int) (c ro : Int) : GF := fun i => if kd i = c then .inr (i + 1, [], [ro]) else .inl i
def em (o : Op) : GF := fun i => .inr (i, [o], [])
/-- a name, and what is done with it -/
def nm (kd : Nat → Int) (ro c : Int) : GF := fun i => if kd i = 256 then .inr (i + 1, [(c, (i : Int), 0)], [ro]) else .inl i
/-- two names: a voter, a project -/
def lk (kd : Nat → Int) : GF := fun i => if kd i = 256 then (if kd (i + 1) = 256 then .inr (i + 2, [(11, (i : Int), ((i + 1 : Nat) : Int))], [13, 12]) else .inl (i + 1)) else .inl i
def gPair (kd : Nat → Int) : Option (GF × GF) → GF
  | none => fun i => .inl i
  | some v => fun i => bnd (tk kd 40 0 i) fun i => bnd (v.2 i) fun i => bnd (tk kd 44 0 i) fun i => bnd (v.2 i) (tk kd 41 0)
def gNeg (kd : Nat → Int) : Option (GF × GF) → GF
  | none => fun i => .inl i
  | some v => fun i => bnd (tk kd 45 0 i) fun i => bnd (v.1 i) (em (9, 0, 0))
def gPar (kd : Nat → Int) : Option (GF × GF) → GF
  | none => fun i => .inl i
  | some v => fun i => bnd (tk kd 40 0 i) fun i => bnd (v.2 i) (tk kd 41 0)
def gNum : GF := fun i => .inr (i + 1, [(1, (i : Int), 0)], [14])
def gVal (kd : Nat → Int) (lv : Option (GF × GF)) : GF := fun i =>
  if kd i = 40 then gPar kd lv i
  else if kd i = 45 then gNeg kd lv i
  else if kd i = 257 then gNum i
  else if kd i = 303 then bnd (tk kd 303 0 i) (nm kd 12 4)
  else if kd i = 311 then bnd (tk kd 311 0 i) (em (2, 0, 0))
  else if kd i = 312 then bnd (tk kd 312 0 i) (em (3, 0, 0))
  else if kd i = 313 then bnd (tk kd 313 0 i) (nm kd 13 6)
  else if kd i = 314 then bnd (tk kd 314 0 i) (nm kd 12 5)
  else if kd i = 316 then bnd (tk kd 316 0 i) (nm kd 13 7)
  else if kd i = 320 then bnd (tk kd 320 0 i) fun i => bnd (gPair kd lv i) (em (16, 0, 0))
  else if kd i = 321 then bnd (tk kd 321 0 i) fun i => bnd (gPair kd lv i) (em (17, 0, 0))
  else .inl i
/-- what goes on as long as there is such a sign -/
def gLp (kd : Nat → Int) (item : GF) (a ca b cb : Int) : Nat → GF
  | 0 => fun i => .inr (i, [], [])
  | n + 1 => fun i =>
    if kd i = a then bnd (tk kd a 0 i) fun i => bnd (item i) fun i => bnd (em (ca, 0, 0) i) (gLp kd item a ca b cb n)
    else if kd i = b then bnd (tk kd b 0 i) fun i => bnd (item i) fun i => bnd (em (cb, 0, 0) i) (gLp kd item a ca b cb n)
    else .inr (i, [], [])
def gList (kd : Nat → Int) (item : GF) (a ca b cb : Int) : GF := fun i => bnd (item i) (gLp kd item a ca b cb 400)
def gPrd (kd : Nat → Int) (v : GF) : GF := gList kd v 42 14 47 15
def gSum (kd : Nat → Int) (v : GF) : GF := gList kd (gPrd kd v) 43 12 45 13
/-- values and sums, so many depths left -/
def gLv (kd : Nat → Int) : Nat → Option (GF × GF)
  | 0 => none
  | n + 1 => some (gVal kd (gLv kd n), gSum kd (gVal kd (gLv kd n)))
def gCc (x : Int) : Int := if x = 60 then 18 else if x = 61 then 20 else if x = 62 then 19 else if x = 258 then 21 else if x = 259 then 22 else 0
def gNot (kd : Nat → Int) : Option (GF × GF) → GF
  | none => fun i => .inl i
  | some v => fun i => bnd (tk kd 317 0 i) fun i => bnd (v.1 i) (em (10, 0, 0))
def gBra (kd : Nat → Int) : Option (GF × GF) → GF
  | none => fun i => .inl i
  | some v => fun i => bnd (tk kd 91 0 i) fun i => bnd (v.2 i) (tk kd 93 0)
def gCmp (kd : Nat → Int) (su : GF) : GF := fun i => bnd (su i) fun i => if gCc (kd i) = 0 then .inl i else bnd (tk kd (kd i) 0 i) fun j => bnd (su j) (em (gCc (kd i), 0, 0))
def gSng (kd : Nat → Int) (su : GF) (lt : Option (GF × GF)) : GF := fun i =>
  if kd i = 91 then gBra kd lt i
  else if kd i = 307 then bnd (tk kd 307 0 i) (lk kd)
  else if kd i = 315 then bnd (tk kd 315 0 i) (nm kd 12 8)
  else if kd i = 317 then gNot kd lt i
  else gCmp kd su i
def gBth (kd : Nat → Int) (s : GF) : GF := gList kd s 318 23 318 23
def gTst (kd : Nat → Int) (s : GF) : GF := gList kd (gBth kd s) 319 24 319 24
/-- singles and tests, so many depths left -/
def gLt (kd : Nat → Int) : Nat → Option (GF × GF)
  | 0 => none
  | n + 1 => some (gSng kd (gSum kd (gVal kd (gLv kd n))) (gLt kd n), gTst kd (gSng kd (gSum kd (gVal kd (gLv kd n))) (gLt kd n)))
def gV (kd : Nat → Int) (n : Nat) : GF := gVal kd (gLv kd n)
def gS (kd : Nat → Int) (n : Nat) : GF := gSum kd (gVal kd (gLv kd n))
def gO (kd : Nat → Int) (n : Nat) : GF := gSng kd (gS kd n) (gLt kd n)
def gT (kd : Nat → Int) (n : Nat) : GF := gTst kd (gO kd n)
/-! the lines: what comes of them is a row of bans, each with the token at which it begins -/
abbrev LR : Type := Sum Nat (Nat × List (Nat × List Op) × List Int)
abbrev LF : Type := Nat → LR
def bndL (r : LR) (f : LF) : LR := match r with
  | .inl j => .inl j
  | .inr (j, s, t) => match f j with
    | .inl k => .inl k
    | .inr (k, s2, t2) => .inr (k, s ++ s2, t ++ t2)
def tkL (kd : Nat → Int) (c ro : Int) : LF := fun i => if kd i = c then .inr (i + 1, [], [ro]) else .inl i
/-- a ban -/
def l1 (b : Nat) (r : PR) : LR := match r with
  | .inl j => .inl j
  | .inr (j, s, t) => .inr (j, [(b, s)], t)
/-- so many liked ones more -/
def gLk (kd : Nat → Int) : Nat → LF
  | 0 => fun i => .inr (i, [], [])
  | n + 1 => fun i => if kd i = 256 then bndL (tkL kd 256 10 i) (gLk kd n) else .inr (i, [], [])
def gWard (kd : Nat → Int) : LF := fun i => bndL (tkL kd 300 0 i) fun i => bndL (tkL kd 256 1 i) fun i => bndL (tkL kd 301 0 i) (tkL kd 257 5)
def gProj (kd : Nat → Int) : LF := fun i => bndL (tkL kd 302 0 i) fun i => bndL (tkL kd 256 2 i) fun i => bndL (tkL kd 303 0 i) fun i => bndL (tkL kd 257 6 i) fun i => bndL (tkL kd 304 0 i) fun i => bndL (tkL kd 256 9 i) fun i => bndL (tkL kd 305 0 i) (tkL kd 257 7)
def gVot2 (kd : Nat → Int) : LF := fun i => if kd i = 307 then bndL (tkL kd 307 0 i) fun i => bndL (tkL kd 256 10 i) (gLk kd 400) else .inr (i, [], [])
def gVot (kd : Nat → Int) : LF := fun i => bndL (tkL kd 306 0 i) fun i => bndL (tkL kd 256 3 i) (gVot2 kd)
def gBud (kd : Nat → Int) : LF := fun i => bndL (tkL kd 308 0 i) (tkL kd 257 8)
def gBan (kd : Nat → Int) : GF := fun i => bnd (tk kd 309 4 i) fun i => bnd (tk kd 256 11 i) fun i => bnd (tk kd 310 0 i) (gT kd 8)
def gLine (kd : Nat → Int) : LF := fun i =>
  if kd i = 300 then gWard kd i else if kd i = 302 then gProj kd i else if kd i = 306 then gVot kd i else if kd i = 308 then gBud kd i else if kd i = 309 then l1 i (gBan kd i) else .inl i
def gAll (kd : Nat → Int) : Nat → LF
  | 0 => fun i => if kd i = 260 then .inr (i, [], []) else .inl i
  | n + 1 => fun i => if kd i = 260 then .inr (i, [], []) else bndL (gLine kd i) fun i => bndL (tkL kd 59 0 i) (gAll kd n)
/-! rows of a heap -/
def RW {A : Type} (g : Int → A) : Int → List A → Prop
  | _, [] => True
  | j, v :: r => g j = v ∧ RW g (j + 1) r
theorem RW.app {A : Type} {g : Int → A} : ∀ {L M : List A} {j : Int}, RW g j (L ++ M) ↔ RW g j L ∧ RW g (j + (L.length : Int)) M
  | [], M, j => by
    show RW g j M ↔ True ∧ RW g (j + ((0 : Nat) : Int)) M
    rw [show j + ((0 : Nat) : Int) = j by omega]
    exact ⟨fun x => ⟨trivial, x⟩, fun x => x.2⟩
  | v :: r, M, j => by
    show (g j = v ∧ RW g (j + 1) (r ++ M)) ↔ (g j = v ∧ RW g (j + 1) r) ∧ RW g (j + ((r.length + 1 : Nat) : Int)) M
    rw [RW.app (L := r), show j + ((r.length + 1 : Nat) : Int) = j + 1 + (r.length : Int) by omega]
    exact ⟨fun x => ⟨⟨x.1, x.2.1⟩, x.2.2⟩, fun x => ⟨x.1.1, x.1.2, x.2⟩⟩
theorem RW.cg {A : Type} {g g2 : Int → A} : ∀ {L : List A} {j : Int}, (∀ i, j ≤ i → i < j + (L.length : Int) → g2 i = g i) → RW g j L → RW g2 j L
  | [], _, _, _ => trivial
  | v :: r, j, e, x => by
    have e' : ∀ i, j ≤ i → i < j + ((r.length + 1 : Nat) : Int) → g2 i = g i := e
    exact ⟨(e' j (by omega) (by omega)).trans x.1, RW.cg (fun i z1 z2 => e' i (by omega) (by omega)) x.2⟩
theorem RW.get {A : Type} {g : Int → A} {z : A} : ∀ {L : List A} {j : Int}, RW g j L → ∀ n : Nat, n < L.length → g (j + (n : Int)) = L.getD n z
  | [], _, _, n, hn => absurd hn (Nat.not_lt_zero n)
  | v :: r, j, x, 0, _ => by
    rw [show j + ((0 : Nat) : Int) = j by omega]
    exact x.1
  | v :: r, j, x, n + 1, hn => by
    rw [show j + ((n + 1 : Nat) : Int) = j + 1 + (n : Int) by omega]
    have hn' : n < r.length := Nat.lt_of_succ_lt_succ hn
    exact RW.get x.2 n hn'
theorem RW.snoc {A : Type} {g : Int → A} {L : List A} {j : Int} {v : A} (x : RW g j L) (e : g (j + (L.length : Int)) = v) : RW g j (L ++ [v]) := RW.app.2 ⟨x, e, trivial⟩
theorem okx {P : Prop} (p : P) : am_okx 0 P := p
theorem o01 : ((0 : Int) = 0 ∨ (0 : Int) = 1) = True := eq_true (Or.inl rfl)
theorem o11 : ((1 : Int) = 0 ∨ (1 : Int) = 1) = True := eq_true (Or.inr rfl)
