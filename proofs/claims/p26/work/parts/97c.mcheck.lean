/-! ===== the reference: texts of tokens ===== -/
/-- what digits say -/
def nuF (f : Nat → Int) : Nat → Int
  | 0 => 0
  | n + 1 => nuF f n * 10 + (f n - 48)
theorem nuF_rg {f : Nat → Int} : ∀ {n : Nat}, (∀ i, i < n → 48 ≤ f i ∧ f i ≤ 57) → 0 ≤ nuF f n ∧ nuF f n < (10 : Int) ^ n
  | 0, _ => ⟨Int.le_refl _, show (0 : Int) < (10 : Int) ^ 0 by decide⟩
  | n + 1, h => by
    have a := nuF_rg (n := n) (fun i hi => h i (by omega))
    have b := h n (by omega)
    rw [Int.pow_succ]
    show 0 ≤ nuF f n * 10 + (f n - 48) ∧ nuF f n * 10 + (f n - 48) < _
    omega
theorem pw10 : ∀ n : Nat, n ≤ 6 → (10 : Int) ^ n ≤ 1000000 := fun n hn => by
  have : ∀ n : Nat, n < 7 → (10 : Int) ^ n ≤ 1000000 := by decide
  exact this n (by omega)
def GQ (h : AH) (q : Int) (tp : Int → Int) (tl : Int) (kd ro va fr : Nat → Int) (mn : Nat → Nat) (E : Nat) : Prop := (am_t h 53 = 9) ∧ (am_m h 53 1 = 54) ∧ (am_t h 54 = 20) ∧ (am_l h 54 = 2000) ∧ (am_m h 53 6 = 56) ∧ (am_t h 56 = 20) ∧ (am_l h 56 = 401) ∧ (am_m h 53 7 = 57) ∧ (am_t h 57 = 20) ∧ (am_l h 57 = 401) ∧ (am_m h 53 8 = 58) ∧ (am_t h 58 = 20) ∧ (am_l h 58 = 401) ∧ (am_m h 53 9 = 59) ∧ (am_t h 59 = 20) ∧ (am_l h 59 = 401) ∧ (am_m h 53 13 = q) ∧ (P7 h q) ∧ (88 ≤ q) ∧ (E ≤ 400) ∧ (0 ≤ tl ∧ tl ≤ 2000) ∧ (∀ i, 0 ≤ i → i < tl → am_m h 54 i = tp i) ∧ (∀ k : Nat, k < E → am_m h 58 (k : Int) = mr (ro k)) ∧ (∀ k : Nat, k < E → am_m h 56 (k : Int) = fr k ∧ 0 ≤ fr k) ∧ (∀ k : Nat, k < E → (kd k = 256 ∨ kd k = 257) → am_m h 57 (k : Int) = (mn k : Int) ∧ mn k ≤ 10 ∧ fr k + (mn k : Int) ≤ tl) ∧ (∀ k : Nat, k < E → kd k = 256 → va k = cwF (fun i => tp (fr k + (i : Int))) (mn k) ∧ ∀ i : Nat, i < mn k → alnum (tp (fr k + (i : Int)))) ∧ (∀ k : Nat, k < E → kd k = 257 → va k = nuF (fun i => tp (fr k + (i : Int))) (mn k) ∧ mn k ≤ 6 ∧ ∀ i : Nat, i < mn k → 48 ≤ tp (fr k + (i : Int)) ∧ tp (fr k + (i : Int)) ≤ 57)
theorem GQ.t {h : AH} {q : Int} {tp : Int → Int} {tl : Int} {kd ro va fr : Nat → Int} {mn : Nat → Nat} {E : Nat} (x : GQ h q tp tl kd ro va fr mn E) : am_t h 53 = 9 := x.1
theorem GQ.f1 {h : AH} {q : Int} {tp : Int → Int} {tl : Int} {kd ro va fr : Nat → Int} {mn : Nat → Nat} {E : Nat} (x : GQ h q tp tl kd ro va fr mn E) : am_m h 53 1 = 54 := x.2.1
theorem GQ.t54 {h : AH} {q : Int} {tp : Int → Int} {tl : Int} {kd ro va fr : Nat → Int} {mn : Nat → Nat} {E : Nat} (x : GQ h q tp tl kd ro va fr mn E) : am_t h 54 = 20 := x.2.2.1
theorem GQ.l54 {h : AH} {q : Int} {tp : Int → Int} {tl : Int} {kd ro va fr : Nat → Int} {mn : Nat → Nat} {E : Nat} (x : GQ h q tp tl kd ro va fr mn E) : am_l h 54 = 2000 := x.2.2.2.1
theorem GQ.f6 {h : AH} {q : Int} {tp : Int → Int} {tl : Int} {kd ro va fr : Nat → Int} {mn : Nat → Nat} {E : Nat} (x : GQ h q tp tl kd ro va fr mn E) : am_m h 53 6 = 56 := x.2.2.2.2.1
theorem GQ.t56 {h : AH} {q : Int} {tp : Int → Int} {tl : Int} {kd ro va fr : Nat → Int} {mn : Nat → Nat} {E : Nat} (x : GQ h q tp tl kd ro va fr mn E) : am_t h 56 = 20 := x.2.2.2.2.2.1
theorem GQ.l56 {h : AH} {q : Int} {tp : Int → Int} {tl : Int} {kd ro va fr : Nat → Int} {mn : Nat → Nat} {E : Nat} (x : GQ h q tp tl kd ro va fr mn E) : am_l h 56 = 401 := x.2.2.2.2.2.2.1
theorem GQ.f7 {h : AH} {q : Int} {tp : Int → Int} {tl : Int} {kd ro va fr : Nat → Int} {mn : Nat → Nat} {E : Nat} (x : GQ h q tp tl kd ro va fr mn E) : am_m h 53 7 = 57 := x.2.2.2.2.2.2.2.1
theorem GQ.t57 {h : AH} {q : Int} {tp : Int → Int} {tl : Int} {kd ro va fr : Nat → Int} {mn : Nat → Nat} {E : Nat} (x : GQ h q tp tl kd ro va fr mn E) : am_t h 57 = 20 := x.2.2.2.2.2.2.2.2.1
theorem GQ.l57 {h : AH} {q : Int} {tp : Int → Int} {tl : Int} {kd ro va fr : Nat → Int} {mn : Nat → Nat} {E : Nat} (x : GQ h q tp tl kd ro va fr mn E) : am_l h 57 = 401 := x.2.2.2.2.2.2.2.2.2.1
theorem GQ.f8 {h : AH} {q : Int} {tp : Int → Int} {tl : Int} {kd ro va fr : Nat → Int} {mn : Nat → Nat} {E : Nat} (x : GQ h q tp tl kd ro va fr mn E) : am_m h 53 8 = 58 := x.2.2.2.2.2.2.2.2.2.2.1
theorem GQ.t58 {h : AH} {q : Int} {tp : Int → Int} {tl : Int} {kd ro va fr : Nat → Int} {mn : Nat → Nat} {E : Nat} (x : GQ h q tp tl kd ro va fr mn E) : am_t h 58 = 20 := x.2.2.2.2.2.2.2.2.2.2.2.1
theorem GQ.l58 {h : AH} {q : Int} {tp : Int → Int} {tl : Int} {kd ro va fr : Nat → Int} {mn : Nat → Nat} {E : Nat} (x : GQ h q tp tl kd ro va fr mn E) : am_l h 58 = 401 := x.2.2.2.2.2.2.2.2.2.2.2.2.1
theorem GQ.f9 {h : AH} {q : Int} {tp : Int → Int} {tl : Int} {kd ro va fr : Nat → Int} {mn : Nat → Nat} {E : Nat} (x : GQ h q tp tl kd ro va fr mn E) : am_m h 53 9 = 59 := x.2.2.2.2.2.2.2.2.2.2.2.2.2.1
theorem GQ.t59 {h : AH} {q : Int} {tp : Int → Int} {tl : Int} {kd ro va fr : Nat → Int} {mn : Nat → Nat} {E : Nat} (x : GQ h q tp tl kd ro va fr mn E) : am_t h 59 = 20 := x.2.2.2.2.2.2.2.2.2.2.2.2.2.2.1
theorem GQ.l59 {h : AH} {q : Int} {tp : Int → Int} {tl : Int} {kd ro va fr : Nat → Int} {mn : Nat → Nat} {E : Nat} (x : GQ h q tp tl kd ro va fr mn E) : am_l h 59 = 401 := x.2.2.2.2.2.2.2.2.2.2.2.2.2.2.2.1
theorem GQ.f13 {h : AH} {q : Int} {tp : Int → Int} {tl : Int} {kd ro va fr : Nat → Int} {mn : Nat → Nat} {E : Nat} (x : GQ h q tp tl kd ro va fr mn E) : am_m h 53 13 = q := x.2.2.2.2.2.2.2.2.2.2.2.2.2.2.2.2.1
theorem GQ.p {h : AH} {q : Int} {tp : Int → Int} {tl : Int} {kd ro va fr : Nat → Int} {mn : Nat → Nat} {E : Nat} (x : GQ h q tp tl kd ro va fr mn E) : P7 h q := x.2.2.2.2.2.2.2.2.2.2.2.2.2.2.2.2.2.1
theorem GQ.qb {h : AH} {q : Int} {tp : Int → Int} {tl : Int} {kd ro va fr : Nat → Int} {mn : Nat → Nat} {E : Nat} (x : GQ h q tp tl kd ro va fr mn E) : 88 ≤ q := x.2.2.2.2.2.2.2.2.2.2.2.2.2.2.2.2.2.2.1
theorem GQ.E4 {h : AH} {q : Int} {tp : Int → Int} {tl : Int} {kd ro va fr : Nat → Int} {mn : Nat → Nat} {E : Nat} (x : GQ h q tp tl kd ro va fr mn E) : E ≤ 400 := x.2.2.2.2.2.2.2.2.2.2.2.2.2.2.2.2.2.2.2.1
theorem GQ.tl {h : AH} {q : Int} {tp : Int → Int} {tl : Int} {kd ro va fr : Nat → Int} {mn : Nat → Nat} {E : Nat} (x : GQ h q tp tl kd ro va fr mn E) : 0 ≤ tl ∧ tl ≤ 2000 := x.2.2.2.2.2.2.2.2.2.2.2.2.2.2.2.2.2.2.2.2.1
theorem GQ.tp {h : AH} {q : Int} {tp : Int → Int} {tl : Int} {kd ro va fr : Nat → Int} {mn : Nat → Nat} {E : Nat} (x : GQ h q tp tl kd ro va fr mn E) : ∀ i, 0 ≤ i → i < tl → am_m h 54 i = tp i := x.2.2.2.2.2.2.2.2.2.2.2.2.2.2.2.2.2.2.2.2.2.1
theorem GQ.ro {h : AH} {q : Int} {tp : Int → Int} {tl : Int} {kd ro va fr : Nat → Int} {mn : Nat → Nat} {E : Nat} (x : GQ h q tp tl kd ro va fr mn E) : ∀ k : Nat, k < E → am_m h 58 (k : Int) = mr (ro k) := x.2.2.2.2.2.2.2.2.2.2.2.2.2.2.2.2.2.2.2.2.2.2.1
theorem GQ.fr {h : AH} {q : Int} {tp : Int → Int} {tl : Int} {kd ro va fr : Nat → Int} {mn : Nat → Nat} {E : Nat} (x : GQ h q tp tl kd ro va fr mn E) : ∀ k : Nat, k < E → am_m h 56 (k : Int) = fr k ∧ 0 ≤ fr k := x.2.2.2.2.2.2.2.2.2.2.2.2.2.2.2.2.2.2.2.2.2.2.2.1
theorem GQ.tx {h : AH} {q : Int} {tp : Int → Int} {tl : Int} {kd ro va fr : Nat → Int} {mn : Nat → Nat} {E : Nat} (x : GQ h q tp tl kd ro va fr mn E) : ∀ k : Nat, k < E → (kd k = 256 ∨ kd k = 257) → am_m h 57 (k : Int) = (mn k : Int) ∧ mn k ≤ 10 ∧ fr k + (mn k : Int) ≤ tl := x.2.2.2.2.2.2.2.2.2.2.2.2.2.2.2.2.2.2.2.2.2.2.2.2.1
theorem GQ.nm {h : AH} {q : Int} {tp : Int → Int} {tl : Int} {kd ro va fr : Nat → Int} {mn : Nat → Nat} {E : Nat} (x : GQ h q tp tl kd ro va fr mn E) : ∀ k : Nat, k < E → kd k = 256 → va k = cwF (fun i => tp (fr k + (i : Int))) (mn k) ∧ ∀ i : Nat, i < mn k → alnum (tp (fr k + (i : Int))) := x.2.2.2.2.2.2.2.2.2.2.2.2.2.2.2.2.2.2.2.2.2.2.2.2.2.1
theorem GQ.nu {h : AH} {q : Int} {tp : Int → Int} {tl : Int} {kd ro va fr : Nat → Int} {mn : Nat → Nat} {E : Nat} (x : GQ h q tp tl kd ro va fr mn E) : ∀ k : Nat, k < E → kd k = 257 → va k = nuF (fun i => tp (fr k + (i : Int))) (mn k) ∧ mn k ≤ 6 ∧ ∀ i : Nat, i < mn k → 48 ≤ tp (fr k + (i : Int)) ∧ tp (fr k + (i : Int)) ≤ 57 := x.2.2.2.2.2.2.2.2.2.2.2.2.2.2.2.2.2.2.2.2.2.2.2.2.2.2
/-- what may have changed since -/
def FQ2 (h0 h : AH) (q : Int) : Prop := (am_n h0 ≤ am_n h ∧ am_sl h = am_sl h0 ∧ (∀ j, am_sx h j = am_sx h0 j) ∧ (∀ b, b < am_n h0 → am_t h b = am_t h0 b ∧ am_l h b = am_l h0 b)) ∧ ∀ b j, b < am_n h0 → ¬ (b = 53 ∧ (j = 10 ∨ j = 11)) → ¬ (b = 58 ∨ b = 59) → ¬ (b = q ∧ (j = 0 ∨ j = 2 ∨ j = 6 ∨ j = 8 ∨ j = 9 ∨ j = 10 ∨ j = 15 ∨ j = 17)) → ¬ (q + 1 ≤ b ∧ b ≤ q + 10) → am_m h b j = am_m h0 b j
theorem FQ2.rf {h : AH} {q : Int} : FQ2 h h q := ⟨⟨Int.le_refl _, rfl, fun _ => rfl, fun _ _ => ⟨rfl, rfl⟩⟩, fun _ _ _ _ _ _ _ => rfl⟩
theorem FQM.q2 {h0 h : AH} {q : Int} (x : FQM h0 h q) : FQ2 h0 h q := ⟨x.1, fun b j z0 z1 z2 z3 z4 => x.2 b j z0 z1 (by omega) (by omega) (by omega) (by omega) (by omega) (by omega)⟩
theorem FQ2.tr {h0 h h2 : AH} {q : Int} (x : FQ2 h0 h q) (y : FQ2 h h2 q) : FQ2 h0 h2 q := by
  obtain ⟨⟨a1, a2, a3, a4⟩, a5⟩ := x
  obtain ⟨⟨b1, b2, b3, b4⟩, b5⟩ := y
  exact ⟨⟨Int.le_trans a1 b1, b2.trans a2, fun j => (b3 j).trans (a3 j), fun b hb => ⟨(b4 b (Int.lt_of_lt_of_le hb a1)).1.trans (a4 b hb).1, (b4 b (Int.lt_of_lt_of_le hb a1)).2.trans (a4 b hb).2⟩⟩, fun b j z0 z1 z2 z3 z4 => (b5 b j (Int.lt_of_lt_of_le z0 a1) z1 z2 z3 z4).trans (a5 b j z0 z1 z2 z3 z4)⟩
/-- the rows that say what tokens are -/
def TQ (h0 h : AH) : Prop := (∀ b, b < 60 → am_t h b = am_t h0 b ∧ am_l h b = am_l h0 b) ∧ (∀ j, (j = 1 ∨ (6 ≤ j ∧ j ≤ 9) ∨ j = 13) → am_m h 53 j = am_m h0 53 j) ∧ ∀ b i, (b = 54 ∨ b = 56 ∨ b = 57 ∨ b = 58) → am_m h b i = am_m h0 b i
def TQ0 (h0 h : AH) : Prop := (∀ b, b < 60 → am_t h b = am_t h0 b ∧ am_l h b = am_l h0 b) ∧ (∀ j, (j = 1 ∨ (6 ≤ j ∧ j ≤ 9) ∨ j = 13) → am_m h 53 j = am_m h0 53 j) ∧ ∀ b i, (b = 54 ∨ b = 56 ∨ b = 57) → am_m h b i = am_m h0 b i
theorem TQ.z {h0 h : AH} (x : TQ h0 h) : TQ0 h0 h := ⟨x.1, x.2.1, fun b i hb => x.2.2 b i (by omega)⟩
theorem TQ.rf {h : AH} : TQ h h := ⟨fun _ _ => ⟨rfl, rfl⟩, fun _ _ => rfl, fun _ _ _ => rfl⟩
section
variable {d D : Nat} {h0 h : AH} {q : Int} {tp : Int → Int} {tl : Int} {kd ro va fr : Nat → Int} {mn : Nat → Nat} {E : Nat} {K : AK}
theorem fiv_snoc {v x : Int} : ∀ {L : List Int} {n : Int}, fiv v L n = -1 → 0 ≤ n → fiv v (L ++ [x]) n = if x = v then n + (L.length : Int) else -1
  | [], n, _, _ => by
    show (if x = v then n else -1) = if x = v then n + ((0 : Nat) : Int) else -1
    rw [show n + ((0 : Nat) : Int) = n by omega]
  | y :: r, n, h, hn => by
    have h' : (if y = v then n else fiv v r (n + 1)) = -1 := h
    show (if y = v then n else fiv v (r ++ [x]) (n + 1)) = if x = v then n + ((r.length + 1 : Nat) : Int) else -1
    by_cases z : y = v
    · rw [if_pos z] at h'
      omega
    · rw [if_neg z] at h' ⊢
      rw [fiv_snoc h' (by omega), show n + 1 + (r.length : Int) = n + ((r.length + 1 : Nat) : Int) by omega]
theorem fiv_app {v : Int} : ∀ {L M : List Int} {n : Int}, fiv v L n ≠ -1 → fiv v (L ++ M) n = fiv v L n
  | [], _, _, h => absurd rfl h
  | y :: r, M, n, h => by
    have h' : (if y = v then n else fiv v r (n + 1)) ≠ -1 := h
    show (if y = v then n else fiv v (r ++ M) (n + 1)) = if y = v then n else fiv v r (n + 1)
    by_cases z : y = v
    · rw [if_pos z, if_pos z]
    · rw [if_neg z] at h' ⊢
      rw [if_neg z]
      exact fiv_app h'
theorem nl_app {as : Int} {k : Nat} : ∀ {n : Nat}, ∃ M, nl ro as (k + n) = nl ro as k ++ M
  | 0 => ⟨[], (List.append_nil _).symm⟩
  | n + 1 => by
    obtain ⟨M, e⟩ := nl_app (as := as) (k := k) (n := n)
    refine ⟨M ++ (if ro (k + n) = as then [k + n] else []), ?_⟩
    show nl ro as (k + n) ++ (if ro (k + n) = as then [k + n] else []) = _
    rw [e, List.append_assoc]
theorem cn_le {as : Int} {j : Nat} : ∀ {n : Nat}, cn ro as (j + n) ≤ cn ro as j + n
  | 0 => Nat.le_refl _
  | n + 1 => by
    have := cn_le (as := as) (j := j) (n := n)
    show cn ro as (j + n) + (if ro (j + n) = as then 1 else 0) ≤ _
    split <;> omega
end
