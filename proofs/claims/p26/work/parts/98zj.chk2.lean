/-! ===== the law's list as a whole: what the class makes of it ===== -/
def grp (g : Nat → LnT) : Nat → List LnT
  | 0 => []
  | n + 1 => grp g n ++ [g n]
theorem grp_pre {g : Nat → LnT} {n : Nat} : ∀ {N : Nat}, n < N → ∃ post, grp g N = grp g n ++ g n :: post
  | 0, h => absurd h (by omega)
  | N + 1, h => by
    by_cases e : n = N
    · subst e
      exact ⟨[], rfl⟩
    · obtain ⟨post, hp⟩ := grp_pre (g := g) (n := n) (N := N) (by omega)
      refine ⟨post ++ [g N], ?_⟩
      show grp g N ++ [g N] = _
      rw [hp, List.append_assoc]
      rfl
theorem grp_mem {g : Nat → LnT} {P : LnT → Prop} : ∀ {N : Nat}, (∀ n, n < N → P (g n)) → ∀ l ∈ grp g N, P l
  | 0, _, l, hl => by cases hl
  | N + 1, h, l, hl => by
    have hl' : l ∈ grp g N ++ [g N] := hl
    rcases List.mem_append.1 hl' with y | y
    · exact grp_mem (fun n hn => h n (by omega)) l y
    · rw [List.mem_singleton] at y
      rw [y]
      exact h N (by omega)
theorem grp_len {g : Nat → LnT} : ∀ {N : Nat}, (grp g N).length = N
  | 0 => rfl
  | N + 1 => by
    show (grp g N ++ [g N]).length = N + 1
    rw [List.length_append, grp_len]
    rfl
theorem lts_snoc {a : List LnT} {l : LnT} : (lts (a ++ [l])).length = (lts a).length + (l.2.1.length + 1) := by
  rw [lts_app, List.length_append]
  show _ + (l.2.1 ++ (59, 0) :: lts []).length = _
  rw [List.length_append]
  rfl
theorem lbs_snoc {a : List LnT} {l : LnT} : (lbs (a ++ [l])).length = (lbs a).length + l.1.length := by
  rw [lbs_app, List.length_append]
  show _ + (l.1 ++ lbs []).length = _
  rw [List.length_append]
  rfl
theorem grp_bd {g : Nat → LnT} {x y : Nat} : ∀ {N : Nat}, (∀ n, n < N → (g n).2.1.length + 1 ≤ x ∧ (g n).1.length ≤ y) → (lts (grp g N)).length ≤ x * N ∧ (lbs (grp g N)).length ≤ y * N
  | 0, _ => ⟨Nat.le_refl _, Nat.le_refl _⟩
  | N + 1, h => by
    obtain ⟨i1, i2⟩ := grp_bd (g := g) (x := x) (y := y) (N := N) (fun n hn => h n (by omega))
    obtain ⟨h1, h2⟩ := h N (by omega)
    have e1 : x * (N + 1) = x * N + x := Nat.mul_succ x N
    have e2 : y * (N + 1) = y * N + y := Nat.mul_succ y N
    rw [e1, e2]
    show (lts (grp g N ++ [g N])).length ≤ _ ∧ (lbs (grp g N ++ [g N])).length ≤ _
    rw [lts_snoc, lbs_snoc]
    omega
theorem grp_lns {g : Nat → LnT} (h : ∀ n i, (g n).2.2.2 i = []) : ∀ {N i : Nat}, lns (grp g N) i = []
  | 0, _ => rfl
  | N + 1, i => by
    show lns (grp g N ++ [g N]) i = []
    rw [lns_app, grp_lns h]
    show [] ++ ((g N).2.2.2 _ ++ []) = _
    rw [h]
    rfl
/-- a state that is kept line by line -/
theorem grp_run {ro va : Nat → Int} {AL : List LnT} (hro : ∀ pre l post, AL = pre ++ l :: post → KD ro (lts pre).length (l.2.2.1 ++ [0]) ∧ KD va (lts pre).length (l.2.1.map Prod.snd ++ [0])) {g : Nat → LnT} {S : Nat → Nat → TT → Prop} {pre post : List LnT} {N : Nat} (hA : AL = pre ++ (grp g N ++ post))
    (step : ∀ n j f, n < N → S n j f → KD ro j ((g n).2.2.1 ++ [0]) → KD va j ((g n).2.1.map Prod.snd ++ [0]) → ∃ f2, RnF ro va j f ((g n).2.1.length + 1) f2 ∧ S (n + 1) (j + ((g n).2.1.length + 1)) f2) {f0 : TT} (h0 : S 0 (lts pre).length f0) : ∀ n, n ≤ N → ∃ f, RnF ro va (lts pre).length f0 (lts (grp g n)).length f ∧ S n ((lts pre).length + (lts (grp g n)).length) f
  | 0, _ => ⟨f0, RnF.rf, h0⟩
  | n + 1, hn => by
    obtain ⟨f, x, s⟩ := grp_run hro hA step h0 n (by omega)
    obtain ⟨post2, hp⟩ := grp_pre (g := g) (n := n) (N := N) (by omega)
    have hA2 : AL = (pre ++ grp g n) ++ g n :: (post2 ++ post) := by
      rw [hA, hp]
      simp
    obtain ⟨k1, k2⟩ := hro _ _ _ hA2
    rw [lts_app, List.length_append] at k1 k2
    obtain ⟨f2, x2, s2⟩ := step n _ f (by omega) s k1 k2
    refine ⟨f2, ?_, ?_⟩
    · show RnF ro va _ f0 (lts (grp g n ++ [g n])).length f2
      rw [lts_snoc]
      exact x.tr x2
    · show S (n + 1) (_ + (lts (grp g n ++ [g n])).length) f2
      rw [lts_snoc, ← Nat.add_assoc]
      exact s2
/-- what is told so far: wards, projects, voters, bans -/
def FS (lp : TT) (n1 n2 n3 n4 : Nat) (bd : Int) (f : TT) : Prop := (f 0 0 = (n1 : Int)) ∧ (f 1 0 = (n2 : Int)) ∧ (f 2 0 = (n3 : Int)) ∧ (f 3 0 = (n4 : Int)) ∧ (f 8 0 = bd) ∧ (∀ i, 0 ≤ i → i < (n1 : Int) → f 4 i = lp 4 i) ∧ (∀ i, 0 ≤ i → i < (n2 : Int) → f 5 i = lp 5 i ∧ f 6 i = lp 6 i ∧ f 9 i = lp 9 i) ∧ (∀ v p, 0 ≤ v → 0 ≤ p → p < 12 → f 10 (12 * v + p) = if v < (n3 : Int) then lp 10 (12 * v + p) else 0) ∧ (∀ i, 0 ≤ i → i < (n4 : Int) → f 7 i = lp 7 i)
theorem FS.c1 {lp : TT} {n1 n2 n3 n4 : Nat} {bd : Int} {f : TT} (x : FS lp n1 n2 n3 n4 bd f) : f 0 0 = (n1 : Int) := x.1
theorem FS.c2 {lp : TT} {n1 n2 n3 n4 : Nat} {bd : Int} {f : TT} (x : FS lp n1 n2 n3 n4 bd f) : f 1 0 = (n2 : Int) := x.2.1
theorem FS.c3 {lp : TT} {n1 n2 n3 n4 : Nat} {bd : Int} {f : TT} (x : FS lp n1 n2 n3 n4 bd f) : f 2 0 = (n3 : Int) := x.2.2.1
theorem FS.c4 {lp : TT} {n1 n2 n3 n4 : Nat} {bd : Int} {f : TT} (x : FS lp n1 n2 n3 n4 bd f) : f 3 0 = (n4 : Int) := x.2.2.2.1
theorem FS.b {lp : TT} {n1 n2 n3 n4 : Nat} {bd : Int} {f : TT} (x : FS lp n1 n2 n3 n4 bd f) : f 8 0 = bd := x.2.2.2.2.1
theorem FS.w {lp : TT} {n1 n2 n3 n4 : Nat} {bd : Int} {f : TT} (x : FS lp n1 n2 n3 n4 bd f) : ∀ i, 0 ≤ i → i < (n1 : Int) → f 4 i = lp 4 i := x.2.2.2.2.2.1
theorem FS.p {lp : TT} {n1 n2 n3 n4 : Nat} {bd : Int} {f : TT} (x : FS lp n1 n2 n3 n4 bd f) : ∀ i, 0 ≤ i → i < (n2 : Int) → f 5 i = lp 5 i ∧ f 6 i = lp 6 i ∧ f 9 i = lp 9 i := x.2.2.2.2.2.2.1
theorem FS.l {lp : TT} {n1 n2 n3 n4 : Nat} {bd : Int} {f : TT} (x : FS lp n1 n2 n3 n4 bd f) : ∀ v p, 0 ≤ v → 0 ≤ p → p < 12 → f 10 (12 * v + p) = if v < (n3 : Int) then lp 10 (12 * v + p) else 0 := x.2.2.2.2.2.2.2.1
theorem FS.k {lp : TT} {n1 n2 n3 n4 : Nat} {bd : Int} {f : TT} (x : FS lp n1 n2 n3 n4 bd f) : ∀ i, 0 ≤ i → i < (n4 : Int) → f 7 i = lp 7 i := x.2.2.2.2.2.2.2.2
theorem FS.i0 {lp : TT} : FS lp 0 0 0 0 100 f00 := ⟨rfl, rfl, rfl, rfl, rfl, fun i a b => absurd b (by omega), fun i a b => absurd b (by omega), fun v p a b c => by rw [if_neg (by omega)]; rfl, fun i a b => absurd b (by omega)⟩
section
variable {ro va : Nat → Int} {j n1 n2 n3 n4 : Nat} {f lp : TT} {bd : Int}
theorem runW (F : FS lp n1 n2 n3 n4 bd f) (N : NM ro va j n1 n2 n3) (kr : KD ro j [0, 1, 0, 5, 0]) {x y z : Int} (kv : KD va j [x, nmv 119 (n1 : Int), y, lp 4 (n1 : Int), z]) (h1 : n1 < 4) (hc : 0 ≤ lp 4 (n1 : Int) ∧ lp 4 (n1 : Int) ≤ 12) : ∃ f2, RnF ro va j f 5 f2 ∧ NM ro va (j + 5) (n1 + 1) n2 n3 ∧ FS lp (n1 + 1) n2 n3 n4 bd f2 := by
  obtain ⟨r0, r1, r2, r3, r4, -⟩ := kr
  obtain ⟨-, v1, -, v3, -⟩ := kv
  have N1 := N.o (by omega)
  obtain ⟨s1, N2⟩ := p1 (f := f) N1 r1 v1 F.c1 h1
  have N3 := N2.o (by omega)
  have s3 := p5 (f := su f 0 0 ((n1 + 1 : Nat) : Int)) (va := va) r3 (by rw [v3]; exact hc)
  have N4 := N3.o (by omega)
  have N5 := N4.o (by omega)
  rw [v3, su_eq] at s3
  refine ⟨_, (((p0 r0).tr s1).tr ((p0 r2).tr s3)).tr (p0 r4), N5, ?_⟩
  have e : ((n1 + 1 : Nat) : Int) - 1 = (n1 : Int) := by omega
  rw [e]
  refine ⟨(su_ne (by omega)).trans su_eq, (su_ne (by omega)).trans ((su_ne (by omega)).trans F.c2), (su_ne (by omega)).trans ((su_ne (by omega)).trans F.c3), (su_ne (by omega)).trans ((su_ne (by omega)).trans F.c4), (su_ne (by omega)).trans ((su_ne (by omega)).trans F.b), fun i a b => ?_, fun i a b => ?_, fun v p a b c => ?_, fun i a b => (su_ne (by omega)).trans ((su_ne (by omega)).trans (F.k i a b))⟩
  · by_cases q : i = (n1 : Int)
    · rw [q, su_eq]
    · rw [su_ne (by omega), su_ne (by omega)]
      exact F.w i a (by omega)
  · obtain ⟨q1, q2, q3⟩ := F.p i a b
    exact ⟨(su_ne (by omega)).trans ((su_ne (by omega)).trans q1), (su_ne (by omega)).trans ((su_ne (by omega)).trans q2), (su_ne (by omega)).trans ((su_ne (by omega)).trans q3)⟩
  · rw [su_ne (by omega), su_ne (by omega)]
    exact F.l v p a b c
theorem runU {b : Int} (F : FS lp n1 n2 n3 n4 bd f) (N : NM ro va j n1 n2 n3) (kr : KD ro j [0, 8, 0]) {x z : Int} (kv : KD va j [x, b, z]) (hc : b ≤ 9999) : ∃ f2, RnF ro va j f 3 f2 ∧ NM ro va (j + 3) n1 n2 n3 ∧ FS lp n1 n2 n3 n4 b f2 := by
  obtain ⟨r0, r1, r2, -⟩ := kr
  obtain ⟨-, v1, -⟩ := kv
  have N1 := N.o (by omega)
  have N2 := N1.o (by omega)
  have N3 := N2.o (by omega)
  have s1 := p8 (f := f) (va := va) r1 (by rw [v1]; exact hc)
  rw [v1] at s1
  refine ⟨_, ((p0 r0).tr s1).tr (p0 r2), N3, ?_⟩
  refine ⟨(su_ne (by omega)).trans F.c1, (su_ne (by omega)).trans F.c2, (su_ne (by omega)).trans F.c3, (su_ne (by omega)).trans F.c4, su_eq, fun i a b => (su_ne (by omega)).trans (F.w i a b), fun i a b => ?_, fun v p a b c => ?_, fun i a b => (su_ne (by omega)).trans (F.k i a b)⟩
  · obtain ⟨q1, q2, q3⟩ := F.p i a b
    exact ⟨(su_ne (by omega)).trans q1, (su_ne (by omega)).trans q2, (su_ne (by omega)).trans q3⟩
  · rw [su_ne (by omega)]
    exact F.l v p a b c
theorem runP (F : FS lp n1 n2 n3 n4 bd f) (N : NM ro va j n1 n2 n3) (kr : KD ro j [0, 2, 0, 6, 0, 9, 0, 7, 0]) {x y z t u : Int} (kv : KD va j [x, nmv 112 (n2 : Int), y, lp 9 (n2 : Int), z, nmv 119 (lp 5 (n2 : Int)), t, lp 6 (n2 : Int), u]) (h1 : n2 < 12) (hc : 1 ≤ lp 9 (n2 : Int) ∧ lp 9 (n2 : Int) ≤ 999) (hw : 0 ≤ lp 5 (n2 : Int) ∧ lp 5 (n2 : Int) < (n1 : Int)) (hg : 0 ≤ lp 6 (n2 : Int) ∧ lp 6 (n2 : Int) ≤ 50) : ∃ f2, RnF ro va j f 9 f2 ∧ NM ro va (j + 9) n1 (n2 + 1) n3 ∧ FS lp n1 (n2 + 1) n3 n4 bd f2 := by
  obtain ⟨r0, r1, r2, r3, r4, r5, r6, r7, r8, -⟩ := kr
  obtain ⟨-, v1, -, v3, -, v5, -, v7, -⟩ := kv
  have N1 := N.o (by omega)
  obtain ⟨s1, N2⟩ := p2 (f := f) N1 r1 v1 F.c2 h1
  have N3 := N2.o (by omega)
  have e : ((n2 + 1 : Nat) : Int) - 1 = (n2 : Int) := by omega
  have s3 := p6 (f := su f 1 0 ((n2 + 1 : Nat) : Int)) (va := va) r3 (by rw [v3]; exact hc)
  rw [v3, su_eq, e] at s3
  have N4 := N3.o (by omega)
  have N5 := N4.o (by omega)
  have s5 := p9 (f := su (su f 1 0 ((n2 + 1 : Nat) : Int)) 9 (n2 : Int) (lp 9 (n2 : Int))) N5 r5 v5 hw.1 hw.2
  rw [su_ne (by omega : ¬ ((1 : Nat) = 9 ∧ (0 : Int) = (n2 : Int))), su_eq, e] at s5
  have N6 := N5.o (by omega)
  have N7 := N6.o (by omega)
  have s7 := p7 (f := su (su (su f 1 0 ((n2 + 1 : Nat) : Int)) 9 (n2 : Int) (lp 9 (n2 : Int))) 5 (n2 : Int) (lp 5 (n2 : Int))) (va := va) r7 (by rw [v7]; exact hg)
  rw [v7, su_ne (by omega : ¬ ((1 : Nat) = 5 ∧ (0 : Int) = (n2 : Int))), su_ne (by omega : ¬ ((1 : Nat) = 9 ∧ (0 : Int) = (n2 : Int))), su_eq, e] at s7
  have N8 := N7.o (by omega)
  have N9 := N8.o (by omega)
  refine ⟨_, ((((p0 r0).tr s1).tr ((p0 r2).tr s3)).tr (((p0 r4).tr s5).tr ((p0 r6).tr s7))).tr (p0 r8), N9, ?_⟩
  have K : ∀ k i, ¬ k = 1 → ¬ k = 9 → ¬ k = 5 → ¬ k = 6 → su (su (su (su f 1 0 ((n2 + 1 : Nat) : Int)) 9 (n2 : Int) (lp 9 (n2 : Int))) 5 (n2 : Int) (lp 5 (n2 : Int))) 6 (n2 : Int) (lp 6 (n2 : Int)) k i = f k i := fun k i a b c d => by
    rw [su_ne (fun z => d z.1), su_ne (fun z => c z.1), su_ne (fun z => b z.1), su_ne (fun z => a z.1)]
  refine ⟨(K _ _ (by decide) (by decide) (by decide) (by decide)).trans F.c1, ?_, (K _ _ (by decide) (by decide) (by decide) (by decide)).trans F.c3, (K _ _ (by decide) (by decide) (by decide) (by decide)).trans F.c4, (K _ _ (by decide) (by decide) (by decide) (by decide)).trans F.b, fun i a b => (K _ _ (by decide) (by decide) (by decide) (by decide)).trans (F.w i a b), fun i a b => ?_, fun v p a b c => (K _ _ (by decide) (by decide) (by decide) (by decide)).trans (F.l v p a b c), fun i a b => (K _ _ (by decide) (by decide) (by decide) (by decide)).trans (F.k i a b)⟩
  · rw [su_ne (by omega), su_ne (by omega), su_ne (by omega), su_eq]
  · by_cases q : i = (n2 : Int)
    · rw [q]
      refine ⟨?_, su_eq, ?_⟩
      · rw [su_ne (by omega), su_eq]
      · rw [su_ne (by omega), su_ne (by omega), su_eq]
    · obtain ⟨q1, q2, q3⟩ := F.p i a (by omega)
      refine ⟨?_, ?_, ?_⟩
      · rw [su_ne (by omega), su_ne (by omega), su_ne (by omega), su_ne (by omega)]; exact q1
      · rw [su_ne (by omega), su_ne (by omega), su_ne (by omega), su_ne (by omega)]; exact q2
      · rw [su_ne (by omega), su_ne (by omega), su_ne (by omega), su_ne (by omega)]; exact q3
/-- the liked ones of a line: those that are done -/
def FL (lp : TT) (n1 n2 n3 n4 : Nat) (bd : Int) (D : List Int) (f : TT) : Prop := (f 0 0 = (n1 : Int)) ∧ (f 1 0 = (n2 : Int)) ∧ (f 2 0 = ((n3 + 1 : Nat) : Int)) ∧ (f 3 0 = (n4 : Int)) ∧ (f 8 0 = bd) ∧ (∀ i, 0 ≤ i → i < (n1 : Int) → f 4 i = lp 4 i) ∧ (∀ i, 0 ≤ i → i < (n2 : Int) → f 5 i = lp 5 i ∧ f 6 i = lp 6 i ∧ f 9 i = lp 9 i) ∧ (∀ v p, 0 ≤ v → 0 ≤ p → p < 12 → f 10 (12 * v + p) = if v < (n3 : Int) then lp 10 (12 * v + p) else if v = (n3 : Int) ∧ p ∈ D then 1 else 0) ∧ (∀ i, 0 ≤ i → i < (n4 : Int) → f 7 i = lp 7 i)
theorem FL.c1 {lp : TT} {n1 n2 n3 n4 : Nat} {bd : Int} {D : List Int} {f : TT} (x : FL lp n1 n2 n3 n4 bd D f) : f 0 0 = (n1 : Int) := x.1
theorem FL.c2 {lp : TT} {n1 n2 n3 n4 : Nat} {bd : Int} {D : List Int} {f : TT} (x : FL lp n1 n2 n3 n4 bd D f) : f 1 0 = (n2 : Int) := x.2.1
theorem FL.c3 {lp : TT} {n1 n2 n3 n4 : Nat} {bd : Int} {D : List Int} {f : TT} (x : FL lp n1 n2 n3 n4 bd D f) : f 2 0 = ((n3 + 1 : Nat) : Int) := x.2.2.1
theorem FL.c4 {lp : TT} {n1 n2 n3 n4 : Nat} {bd : Int} {D : List Int} {f : TT} (x : FL lp n1 n2 n3 n4 bd D f) : f 3 0 = (n4 : Int) := x.2.2.2.1
theorem FL.b {lp : TT} {n1 n2 n3 n4 : Nat} {bd : Int} {D : List Int} {f : TT} (x : FL lp n1 n2 n3 n4 bd D f) : f 8 0 = bd := x.2.2.2.2.1
theorem FL.w {lp : TT} {n1 n2 n3 n4 : Nat} {bd : Int} {D : List Int} {f : TT} (x : FL lp n1 n2 n3 n4 bd D f) : ∀ i, 0 ≤ i → i < (n1 : Int) → f 4 i = lp 4 i := x.2.2.2.2.2.1
theorem FL.p {lp : TT} {n1 n2 n3 n4 : Nat} {bd : Int} {D : List Int} {f : TT} (x : FL lp n1 n2 n3 n4 bd D f) : ∀ i, 0 ≤ i → i < (n2 : Int) → f 5 i = lp 5 i ∧ f 6 i = lp 6 i ∧ f 9 i = lp 9 i := x.2.2.2.2.2.2.1
theorem FL.l {lp : TT} {n1 n2 n3 n4 : Nat} {bd : Int} {D : List Int} {f : TT} (x : FL lp n1 n2 n3 n4 bd D f) : ∀ v p, 0 ≤ v → 0 ≤ p → p < 12 → f 10 (12 * v + p) = if v < (n3 : Int) then lp 10 (12 * v + p) else if v = (n3 : Int) ∧ p ∈ D then 1 else 0 := x.2.2.2.2.2.2.2.1
theorem FL.k {lp : TT} {n1 n2 n3 n4 : Nat} {bd : Int} {D : List Int} {f : TT} (x : FL lp n1 n2 n3 n4 bd D f) : ∀ i, 0 ≤ i → i < (n4 : Int) → f 7 i = lp 7 i := x.2.2.2.2.2.2.2.2
theorem run1 {D : List Int} {q : Int} (F : FL lp n1 n2 n3 n4 bd D f) (N : NM ro va j n1 n2 (n3 + 1)) (r : ro j = 10) (e : va j = nmv 112 q) (q0 : 0 ≤ q) (q1 : q < (n2 : Int)) (hn : n2 ≤ 12) (hD : ¬ q ∈ D) : ∃ f2, RnF ro va j f 1 f2 ∧ FL lp n1 n2 n3 n4 bd (q :: D) f2 := by
  have e2 : f 2 0 - 1 = (n3 : Int) := by rw [F.c3]; omega
  have s := p10 (f := f) N r e q0 q1 (by
    rw [e2, F.l _ _ (by omega) q0 (by omega), if_neg (by omega), if_neg (fun z => hD z.2)]
    decide)
  rw [e2] at s
  refine ⟨_, s, (su_ne (by omega)).trans F.c1, (su_ne (by omega)).trans F.c2, (su_ne (by omega)).trans F.c3, (su_ne (by omega)).trans F.c4, (su_ne (by omega)).trans F.b, fun i a b => (su_ne (by omega)).trans (F.w i a b), fun i a b => ?_, fun v p a b c => ?_, fun i a b => (su_ne (by omega)).trans (F.k i a b)⟩
  · obtain ⟨q1, q2, q3⟩ := F.p i a b
    exact ⟨(su_ne (by omega)).trans q1, (su_ne (by omega)).trans q2, (su_ne (by omega)).trans q3⟩
  · by_cases y : v = (n3 : Int) ∧ p = q
    · rw [y.1, y.2, su_eq, if_neg (by omega), if_pos ⟨rfl, List.mem_cons_self ..⟩]
    · rw [su_ne (by omega), F.l v p a b c]
      by_cases x : v < (n3 : Int)
      · rw [if_pos x, if_pos x]
      · rw [if_neg x, if_neg x]
        by_cases u : v = (n3 : Int) ∧ p ∈ D
        · rw [if_pos u, if_pos ⟨u.1, List.mem_cons_of_mem _ u.2⟩]
        · rw [if_neg u, if_neg (fun z => by
            rcases List.mem_cons.1 z.2 with w | w
            · exact y ⟨z.1, w⟩
            · exact u ⟨z.1, w⟩)]
theorem runL {n1 n2 n3 n4 : Nat} (hn : n2 ≤ 12) : ∀ {L D : List Int} {j : Nat} {f : TT}, FL lp n1 n2 n3 n4 bd D f → NM ro va j n1 n2 (n3 + 1) → KD ro j (lkR1 L) → KD va j ((lkT1 L).map Prod.snd) → (∀ q ∈ L, (0 ≤ q ∧ q < (n2 : Int)) ∧ ¬ q ∈ D) → L.Nodup → ∃ f2, RnF ro va j f (lkT1 L).length f2 ∧ NM ro va (j + (lkT1 L).length) n1 n2 (n3 + 1) ∧ ∃ D2, FL lp n1 n2 n3 n4 bd D2 f2 ∧ ∀ q, q ∈ D2 ↔ q ∈ L ∨ q ∈ D
  | [], D, j, f, F, N, _, _, _, _ => ⟨f, RnF.rf, N, D, F, fun q => ⟨fun z => Or.inr z, fun z => z.elim (fun y => by cases y) id⟩⟩
  | q :: L, D, j, f, F, N, kr, kv, hq, nd => by
    obtain ⟨kr1, kr2⟩ := (show ro j = 10 ∧ KD ro (j + 1) (lkR1 L) from kr)
    obtain ⟨kv1, kv2⟩ := (show va j = nmv 112 q ∧ KD va (j + 1) ((lkT1 L).map Prod.snd) from kv)
    obtain ⟨⟨q0, q1⟩, q2⟩ := hq q (List.mem_cons_self ..)
    obtain ⟨f1, s1, F1⟩ := run1 F N kr1 kv1 q0 q1 hn q2
    have N1 := N.o (by omega)
    have nd' := List.nodup_cons.1 nd
    obtain ⟨f2, s2, N2, D2, F2, e2⟩ := runL hn F1 N1 kr2 kv2 (fun p hp => ⟨(hq p (List.mem_cons_of_mem _ hp)).1, fun z => by
      rcases List.mem_cons.1 z with w | w
      · rw [w] at hp; exact nd'.1 hp
      · exact (hq p (List.mem_cons_of_mem _ hp)).2 w⟩) nd'.2
    refine ⟨f2, ?_, ?_, D2, F2, fun p => ?_⟩
    · have := s1.tr s2
      rw [show 1 + (lkT1 L).length = (lkT1 (q :: L)).length by show _ = (lkT1 L).length + 1; omega] at this
      exact this
    · rw [show j + (lkT1 (q :: L)).length = j + 1 + (lkT1 L).length by show j + ((lkT1 L).length + 1) = _; omega]
      exact N2
    · rw [e2 p, List.mem_cons, List.mem_cons]
      constructor
      · rintro (a | a | a)
        · exact Or.inl (Or.inr a)
        · exact Or.inl (Or.inl a)
        · exact Or.inr a
      · rintro ((a | a) | a)
        · exact Or.inr (Or.inl a)
        · exact Or.inl a
        · exact Or.inr (Or.inr a)
theorem runV {L : List Int} (F : FS lp n1 n2 n3 n4 bd f) (N : NM ro va j n1 n2 n3) (kr : KD ro j ((lV (n3 : Int) L).2.2.1 ++ [0])) (kv : KD va j ((lV (n3 : Int) L).2.1.map Prod.snd ++ [0])) (h1 : n3 < 12) (hn : n2 ≤ 12) (hL : ∀ q ∈ L, 0 ≤ q ∧ q < (n2 : Int)) (nd : L.Nodup) (hm : ∀ p, 0 ≤ p → p < 12 → lp 10 (12 * (n3 : Int) + p) = if p ∈ L then 1 else 0) : ∃ f2, RnF ro va j f ((lV (n3 : Int) L).2.1.length + 1) f2 ∧ NM ro va (j + ((lV (n3 : Int) L).2.1.length + 1)) n1 n2 (n3 + 1) ∧ FS lp n1 n2 (n3 + 1) n4 bd f2 := by
  have fin : ∀ (D2 : List Int) (f2 : TT), FL lp n1 n2 n3 n4 bd D2 f2 → (∀ q, q ∈ D2 ↔ q ∈ L) → FS lp n1 n2 (n3 + 1) n4 bd f2 := fun D2 f2 F2 e2 => by
    refine ⟨F2.c1, F2.c2, F2.c3, F2.c4, F2.b, F2.w, F2.p, fun v p a b c => ?_, F2.k⟩
    rw [F2.l v p a b c]
    by_cases x : v < (n3 : Int)
    · rw [if_pos x, if_pos (by omega)]
    · rw [if_neg x]
      by_cases y : v = (n3 : Int)
      · rw [if_pos (show v < ((n3 + 1 : Nat) : Int) by omega), y, hm p b c]
        by_cases u : p ∈ L
        · rw [if_pos u, if_pos ⟨rfl, (e2 p).2 u⟩]
        · rw [if_neg u, if_neg (fun z => u ((e2 p).1 z.2))]
      · rw [if_neg (fun z => y z.1), if_neg (by omega)]
  have st : ∀ (f1 : TT), f1 = su f 2 0 ((n3 + 1 : Nat) : Int) → FL lp n1 n2 n3 n4 bd [] f1 := fun f1 e1 => by
    rw [e1]
    refine ⟨(su_ne (by omega)).trans F.c1, (su_ne (by omega)).trans F.c2, su_eq, (su_ne (by omega)).trans F.c4, (su_ne (by omega)).trans F.b, fun i a b => (su_ne (by omega)).trans (F.w i a b), fun i a b => ?_, fun v p a b c => ?_, fun i a b => (su_ne (by omega)).trans (F.k i a b)⟩
    · obtain ⟨q1, q2, q3⟩ := F.p i a b
      exact ⟨(su_ne (by omega)).trans q1, (su_ne (by omega)).trans q2, (su_ne (by omega)).trans q3⟩
    · rw [su_ne (by omega), F.l v p a b c]
      by_cases x : v < (n3 : Int)
      · rw [if_pos x, if_pos x]
      · rw [if_neg x, if_neg x, if_neg (fun z => by cases z.2)]
  cases L with
  | nil =>
    obtain ⟨r0, r1, r2, -⟩ := (show ro j = 0 ∧ ro (j + 1) = 3 ∧ ro (j + 1 + 1) = 0 ∧ True from kr)
    obtain ⟨-, v1, -⟩ := (show va j = 42018920 ∧ va (j + 1) = nmv 118 (n3 : Int) ∧ KD va (j + 1 + 1) [0] from kv)
    have N1 := N.o (by omega)
    obtain ⟨s1, N2⟩ := p3 (f := f) N1 r1 v1 F.c3 h1
    have N3 := N2.o (by omega)
    exact ⟨_, ((p0 r0).tr s1).tr (p0 r2), N3, fin [] _ (st _ rfl) (fun q => Iff.rfl)⟩
  | cons q L =>
    obtain ⟨r0, r1, r2, r3, r4⟩ := (show ro j = 0 ∧ ro (j + 1) = 3 ∧ ro (j + 1 + 1) = 0 ∧ ro (j + 1 + 1 + 1) = 10 ∧ KD ro (j + 1 + 1 + 1 + 1) (lkR1 L ++ [0]) from kr)
    obtain ⟨-, v1, -, v3, v4⟩ := (show va j = 42018920 ∧ va (j + 1) = nmv 118 (n3 : Int) ∧ va (j + 1 + 1) = 22961072 ∧ va (j + 1 + 1 + 1) = nmv 112 q ∧ KD va (j + 1 + 1 + 1 + 1) ((lkT1 L).map Prod.snd ++ [0]) from kv)
    have N1 := N.o (by omega)
    obtain ⟨s1, N2⟩ := p3 (f := f) N1 r1 v1 F.c3 h1
    have N3 := N2.o (by omega)
    have hq := hL q (List.mem_cons_self ..)
    have nd' := List.nodup_cons.1 nd
    obtain ⟨f1, s3, F1⟩ := run1 (st _ rfl) N3 r3 v3 hq.1 hq.2 hn (fun z => by cases z)
    have N4 := N3.o (by omega)
    obtain ⟨r4a, r4b⟩ := KD_app r4
    obtain ⟨v4a, -⟩ := KD_app v4
    obtain ⟨f2, s4, N5, D2, F2, e2⟩ := runL hn F1 N4 r4a v4a (fun p hp => ⟨hL p (List.mem_cons_of_mem _ hp), fun z => by
      rcases List.mem_cons.1 z with w | w
      · rw [w] at hp; exact nd'.1 hp
      · cases w⟩) nd'.2
    have r5 : ro (j + 1 + 1 + 1 + 1 + (lkT1 L).length) = 0 := by
      rw [← lk1_len]
      exact r4b.1
    have N6 := N5.o (by omega)
    have el : (lV (n3 : Int) (q :: L)).2.1.length + 1 = 1 + 1 + (1 + 1) + (lkT1 L).length + 1 := by
      show (lkT1 L).length + 1 + 1 + 1 + 1 + 1 = _
      omega
    rw [el]
    refine ⟨f2, ((((p0 r0).tr s1).tr ((p0 r2).tr s3)).tr s4).tr (p0 (by rw [show j + (1 + 1 + (1 + 1) + (lkT1 L).length) = j + 1 + 1 + 1 + 1 + (lkT1 L).length by omega]; exact r5)), ?_, fin D2 f2 F2 (fun p => ?_)⟩
    · rw [show j + (1 + 1 + (1 + 1) + (lkT1 L).length + 1) = j + 1 + 1 + 1 + 1 + (lkT1 L).length + 1 by omega]
      exact N6
    · rw [e2 p, List.mem_cons, List.mem_cons]
      constructor
      · rintro (a | a | a)
        · exact Or.inr a
        · exact Or.inl a
        · cases a
      · rintro (a | a)
        · exact Or.inr (Or.inl a)
        · exact Or.inl a
end
