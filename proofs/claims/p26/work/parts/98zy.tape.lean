/-! ===== four bytes in a number, and out of it ===== -/
theorem bv32_or {X b : Nat} (hb : b < 256) : (X % 16777216) * 256 ||| b = (X % 16777216) * 256 + b := by
  have := Nat.shiftLeft_add_eq_or_of_lt (b := b) (i := 8) hb (X % 16777216)
  rw [Nat.shiftLeft_eq] at this
  exact this.symm
theorem pack1 {x b : Int} (h0 : 0 ≤ b) (h1 : b < 256) : am_or (am_shl x 8) b = w32 (x * 256 + b) := by
  have e0 : am_or (am_shl x 8) b = ((BitVec.ofInt 32 x <<< 8) ||| BitVec.ofInt 32 b).toInt := by
    show (BitVec.ofInt 32 ((BitVec.ofInt 32 x <<< 8).toInt) ||| BitVec.ofInt 32 b).toInt = _
    rw [BitVec.ofInt_toInt]
  have eX : (BitVec.ofInt 32 x).toNat = (x % 4294967296).toNat := by
    rw [BitVec.toNat_ofInt]
    rfl
  have eb : (BitVec.ofInt 32 b).toNat = b.toNat := by
    rw [BitVec.toNat_ofInt]
    show (b % 4294967296).toNat = _
    omega
  have es : (BitVec.ofInt 32 x <<< 8).toNat = ((x % 4294967296).toNat % 16777216) * 256 := by
    rw [BitVec.toNat_shiftLeft, eX, Nat.shiftLeft_eq]
    show (x % 4294967296).toNat * 256 % 4294967296 = _
    omega
  have en : ((BitVec.ofInt 32 x <<< 8) ||| BitVec.ofInt 32 b).toNat = ((x % 4294967296).toNat % 16777216) * 256 + b.toNat := by
    rw [BitVec.toNat_or, es, eb, bv32_or (by omega)]
  rw [e0, BitVec.toInt_eq_toNat_cond, en]
  unfold w32
  rw [Int.bmod_def]
  have p : (2 : Nat) ^ 32 = 4294967296 := by decide
  have p2 : ((2 ^ 32 : Nat) : Int) = 4294967296 := by decide
  rw [p]
  split <;> split <;> omega
theorem shr_fl {y : Int} (h0 : -2147483648 ≤ y) (h1 : y < 2147483648) : am_shr y 24 = y / 16777216 ∧ am_shr y 16 = y / 65536 ∧ am_shr y 8 = y / 256 ∧ am_shr y 0 = y := by
  have eT : (BitVec.ofInt 32 y).toInt = y := by
    rw [BitVec.toInt_ofInt, Int.bmod_def]
    have p2 : ((2 ^ 32 : Nat) : Int) = 4294967296 := by decide
    rw [p2]
    split <;> omega
  have k24 : am_shr y 24 = ((BitVec.ofInt 32 y).sshiftRight 24).toInt := rfl
  have k16 : am_shr y 16 = ((BitVec.ofInt 32 y).sshiftRight 16).toInt := rfl
  have k8 : am_shr y 8 = ((BitVec.ofInt 32 y).sshiftRight 8).toInt := rfl
  have k0 : am_shr y 0 = ((BitVec.ofInt 32 y).sshiftRight 0).toInt := rfl
  refine ⟨?_, ?_, ?_, ?_⟩
  · rw [k24, BitVec.toInt_sshiftRight, eT, Int.shiftRight_eq_div_pow]
    rfl
  · rw [k16, BitVec.toInt_sshiftRight, eT, Int.shiftRight_eq_div_pow]
    rfl
  · rw [k8, BitVec.toInt_sshiftRight, eT, Int.shiftRight_eq_div_pow]
    rfl
  · rw [k0, BitVec.toInt_sshiftRight, eT, Int.shiftRight_eq_div_pow]
    show y / 1 = y
    omega
/-- a number after m bytes pushed -/
def wq (x : Int) (B : Int → Int) (q : Int) : Nat → Int
  | 0 => x
  | m + 1 => w32 (wq x B q m * 256 + B (4 * q + (m : Int)))
theorem w32_md (x : Int) : ∃ k : Int, w32 x = x + 4294967296 * k ∧ -2147483648 ≤ w32 x ∧ w32 x < 2147483648 := by
  unfold w32
  rw [Int.bmod_def]
  have p2 : ((4294967296 : Nat) : Int) = 4294967296 := rfl
  split
  · exact ⟨-(x / 4294967296), by omega, by omega, by omega⟩
  · exact ⟨-(x / 4294967296) - 1, by omega, by omega, by omega⟩
theorem wq_by {x : Int} {B : Int → Int} {q : Int} (hB : ∀ t, 0 ≤ B t ∧ B t < 256) : ∀ k, 0 ≤ k → k < 4 → s_byte (wq x B q 4) k = B (4 * q + k) := by
  intro k h0 h1
  have b0 := hB (4 * q + ((0 : Nat) : Int))
  have b1 := hB (4 * q + ((1 : Nat) : Int))
  have b2 := hB (4 * q + ((2 : Nat) : Int))
  have b3 := hB (4 * q + ((3 : Nat) : Int))
  obtain ⟨k1, e1, -⟩ := w32_md (x * 256 + B (4 * q + ((0 : Nat) : Int)))
  obtain ⟨k2, e2, -⟩ := w32_md (w32 (x * 256 + B (4 * q + ((0 : Nat) : Int))) * 256 + B (4 * q + ((1 : Nat) : Int)))
  obtain ⟨k3, e3, -⟩ := w32_md (w32 (w32 (x * 256 + B (4 * q + ((0 : Nat) : Int))) * 256 + B (4 * q + ((1 : Nat) : Int))) * 256 + B (4 * q + ((2 : Nat) : Int)))
  obtain ⟨k4, e4, r1, r2⟩ := w32_md (w32 (w32 (w32 (x * 256 + B (4 * q + ((0 : Nat) : Int))) * 256 + B (4 * q + ((1 : Nat) : Int))) * 256 + B (4 * q + ((2 : Nat) : Int))) * 256 + B (4 * q + ((3 : Nat) : Int)))
  show s_byte (w32 (w32 (w32 (w32 (x * 256 + B (4 * q + ((0 : Nat) : Int))) * 256 + B (4 * q + ((1 : Nat) : Int))) * 256 + B (4 * q + ((2 : Nat) : Int))) * 256 + B (4 * q + ((3 : Nat) : Int)))) k = _
  generalize w32 (w32 (w32 (w32 (x * 256 + B (4 * q + ((0 : Nat) : Int))) * 256 + B (4 * q + ((1 : Nat) : Int))) * 256 + B (4 * q + ((2 : Nat) : Int))) * 256 + B (4 * q + ((3 : Nat) : Int))) = y at e4 r1 r2 ⊢
  rw [e3, e2, e1] at e4
  clear e1 e2 e3
  obtain ⟨s1, s2, s3, s4⟩ := shr_fl r1 r2
  unfold s_byte
  rw [am_and255]
  rcases (by omega : k = 0 ∨ k = 1 ∨ k = 2 ∨ k = 3) with e | e | e | e <;> subst e
  · rw [show (24 : Int) - 8 * 0 = 24 from rfl, s1]
    show _ = B (4 * q + ((0 : Nat) : Int))
    generalize B (4 * q + ((0 : Nat) : Int)) = c0 at *
    generalize B (4 * q + ((1 : Nat) : Int)) = c1 at *
    generalize B (4 * q + ((2 : Nat) : Int)) = c2 at *
    generalize B (4 * q + ((3 : Nat) : Int)) = c3 at *
    omega
  · rw [show (24 : Int) - 8 * 1 = 16 from rfl, s2]
    show _ = B (4 * q + ((1 : Nat) : Int))
    generalize B (4 * q + ((0 : Nat) : Int)) = c0 at *
    generalize B (4 * q + ((1 : Nat) : Int)) = c1 at *
    generalize B (4 * q + ((2 : Nat) : Int)) = c2 at *
    generalize B (4 * q + ((3 : Nat) : Int)) = c3 at *
    omega
  · rw [show (24 : Int) - 8 * 2 = 8 from rfl, s3]
    show _ = B (4 * q + ((2 : Nat) : Int))
    generalize B (4 * q + ((0 : Nat) : Int)) = c0 at *
    generalize B (4 * q + ((1 : Nat) : Int)) = c1 at *
    generalize B (4 * q + ((2 : Nat) : Int)) = c2 at *
    generalize B (4 * q + ((3 : Nat) : Int)) = c3 at *
    omega
  · rw [show (24 : Int) - 8 * 3 = 0 from rfl, s4]
    show _ = B (4 * q + ((3 : Nat) : Int))
    generalize B (4 * q + ((0 : Nat) : Int)) = c0 at *
    generalize B (4 * q + ((1 : Nat) : Int)) = c1 at *
    generalize B (4 * q + ((2 : Nat) : Int)) = c2 at *
    generalize B (4 * q + ((3 : Nat) : Int)) = c3 at *
    omega
/-- the text's bytes, then blanks -/
def tB (bs : List Int) (t : Int) : Int := if t < (bs.length : Int) then bs.getD t.toNat 0 else 32
theorem tB_rg {bs : List Int} (hb : ∀ i : Nat, i < bs.length → 0 ≤ bs.getD i 0 ∧ bs.getD i 0 < 128) (i0 : Int) (h0 : 0 ≤ i0) (t : Int) : 0 ≤ tB bs (i0 + (t.toNat : Int)) ∧ tB bs (i0 + (t.toNat : Int)) < 256 := by
  unfold tB
  split
  · have := hb (i0 + (t.toNat : Int)).toNat (by omega)
    omega
  · decide
/-- bytes below 128 -/
def AB (l : List Int) : Prop := ∀ b ∈ l, 0 ≤ b ∧ b < 128
theorem AB.ap {a b : List Int} (x : AB a) (y : AB b) : AB (a ++ b) := fun c hc => (List.mem_append.1 hc).elim (x c) (y c)
theorem AB.nil : AB [] := fun b hb => by cases hb
theorem AB.dgt {x : Int} (h0 : 0 ≤ x) (h1 : x < 10000) : AB (dg x) := by
  intro b hb
  unfold dg at hb
  split at hb
  · simp only [List.mem_cons, List.not_mem_nil, or_false] at hb
    omega
  · split at hb
    · simp only [List.mem_cons, List.not_mem_nil, or_false] at hb
      omega
    · split at hb
      · simp only [List.mem_cons, List.not_mem_nil, or_false] at hb
        omega
      · simp only [List.mem_cons, List.not_mem_nil, or_false] at hb
        omega
theorem AB.lbs {l : List LnT} (h : ∀ x ∈ l, AB x.1) : AB (lbs l) := by
  induction l with
  | nil => exact AB.nil
  | cons x l ih => exact AB.ap (h x List.mem_cons_self) (ih (fun y hy => h y (List.mem_cons_of_mem _ hy)))
theorem AB.lk1 : ∀ {l : List Int}, (∀ p ∈ l, 0 ≤ p ∧ p < 10000) → AB (lkB1 l)
  | [], _ => AB.nil
  | p :: l, h => AB.ap (AB.ap (by unfold AB; decide) (AB.dgt (h p List.mem_cons_self).1 (h p List.mem_cons_self).2)) (AB.lk1 (l := l) (fun q hq => h q (List.mem_cons_of_mem _ hq)))
theorem AB.lk {l : List Int} (h : ∀ p ∈ l, 0 ≤ p ∧ p < 10000) : AB (lkB l) := by
  cases l with
  | nil => exact AB.nil
  | cons p l => exact AB.ap (AB.ap (by unfold AB; decide) (AB.dgt (h p List.mem_cons_self).1 (h p List.mem_cons_self).2)) (AB.lk1 (l := l) (fun q hq => h q (List.mem_cons_of_mem _ hq)))
theorem grp_mem2 {g : Nat → LnT} {x : LnT} {n : Nat} (h : x ∈ grp g n) : ∃ k, k < n ∧ x = g k := grp_mem (P := fun x => ∃ k, k < n ∧ x = g k) (fun k hk => ⟨k, hk, rfl⟩) x h
theorem AB.ts {pp : TT} {b : Int → Int} (hp : 1 ≤ pp 1 0 ∧ pp 1 0 ≤ 7 ∧ 1 ≤ pp 2 0 ∧ pp 2 0 ≤ 7) (br : (0 ≤ b 1 ∧ b 1 < 8) ∧ (0 ≤ b 2 ∧ b 2 < 20) ∧ (0 ≤ b 3 ∧ b 3 < 90) ∧ 0 ≤ b 4 ∧ b 4 < 42) : AB (tsB pp b) := by
  have q0 := Int.emod_nonneg (b 4) (show pp 1 0 ≠ 0 by omega)
  have q1 := Int.emod_lt_of_pos (b 4) (show 0 < pp 1 0 by omega)
  have v0 := Int.emod_nonneg (b 4) (show pp 2 0 ≠ 0 by omega)
  have v1 := Int.emod_lt_of_pos (b 4) (show 0 < pp 2 0 by omega)
  have d1 : AB (dg (b 4 % pp 1 0)) := AB.dgt q0 (by omega)
  have d2 : AB (dg (b 4 % pp 2 0)) := AB.dgt v0 (by omega)
  have d3 : AB (dg (b 2)) := AB.dgt (by omega) (by omega)
  have d4 : AB (dg (b 3)) := AB.dgt (by omega) (by omega)
  have d5 : AB (dg (b 2 % 5 + 1)) := AB.dgt (by omega) (by omega)
  have d6 : AB (dg (b 2 % 5)) := AB.dgt (by omega) (by omega)
  have d7 : AB (dg (b 2 % 7)) := AB.dgt (by omega) (by omega)
  unfold tsB
  repeat' split
  all_goals repeat' first | assumption | (refine AB.ap ?_ ?_) | (unfold AB; decide)
theorem LL_ab {c : Int → Int} : AB (lbs (LL c)) := by
  have y := lpF_LA (c := c)
  obtain ⟨w1, w2, w3⟩ := y.n0
  obtain ⟨p1, p2, p3⟩ := y.n1
  obtain ⟨v1, v2, v3⟩ := y.n2
  obtain ⟨b1, b2⟩ := y.n3
  refine AB.lbs (fun x hx => ?_)
  rcases List.mem_append.1 hx with h | hx
  · obtain ⟨k, k1, rfl⟩ := grp_mem2 h
    have := y.c (k : Int) (by omega) (by omega)
    refine AB.ap (AB.ap (AB.ap (AB.ap (by unfold AB; decide) (AB.dgt (by omega) (by omega))) (by unfold AB; decide)) (AB.dgt (by omega) (by omega))) (by unfold AB; decide)
  rcases List.mem_append.1 hx with h | hx
  · unfold gU at h
    split at h
    · have := y.b
      rw [List.mem_singleton.1 h]
      exact AB.ap (AB.ap (by unfold AB; decide) (AB.dgt (by omega) (by omega))) (by unfold AB; decide)
    · cases h
  rcases List.mem_append.1 hx with h | hx
  · obtain ⟨k, k1, rfl⟩ := grp_mem2 h
    have := y.p (k : Int) (by omega) (by omega)
    refine AB.ap (AB.ap (AB.ap (AB.ap (AB.ap (AB.ap (AB.ap (AB.ap (by unfold AB; decide) (AB.dgt (by omega) (by omega))) (by unfold AB; decide)) (AB.dgt (by omega) (by omega))) (by unfold AB; decide)) (AB.dgt (by omega) (by omega))) (by unfold AB; decide)) (AB.dgt (by omega) (by omega))) (by unfold AB; decide)
  rcases List.mem_append.1 hx with h | h
  · obtain ⟨k, k1, rfl⟩ := grp_mem2 h
    have := (y.l (k : Int) (by omega) (by omega)).1
    refine AB.ap (AB.ap (AB.ap (by unfold AB; decide) (AB.dgt (by omega) (by omega))) (AB.lk (fun p hp => by have := this p hp; omega))) (by unfold AB; decide)
  · obtain ⟨k, k1, rfl⟩ := grp_mem2 h
    obtain ⟨-, e1, e2, e3, e4, e5⟩ := y.k (k : Int) (by omega) (by omega)
    refine AB.ap (AB.ap (AB.ap (AB.ap (by unfold AB; decide) (AB.dgt (by omega) (by omega))) (by unfold AB; decide)) (AB.ts (by omega) ⟨e2, e3, e4, e5⟩)) (by unfold AB; decide)
