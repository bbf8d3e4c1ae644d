/-! ===== numbers, sums, loops, frames ===== -/
theorem w32_id {x : Int} (h1 : -2147483648 ≤ x) (h2 : x < 2147483648) : w32 x = x := by
  unfold w32
  rw [Int.bmod_eq_of_le] <;> omega
theorem w32_rng (x : Int) : -2147483648 ≤ w32 x ∧ w32 x < 2147483648 := by
  unfold w32
  have h1 := Int.le_bmod (x := x) (m := 4294967296) (by omega)
  have h2 := Int.bmod_lt (x := x) (m := 4294967296) (by omega)
  omega
theorem am_and1 (x : Int) : am_and x 1 = 0 ∨ am_and x 1 = 1 := by
  unfold am_and
  generalize Int32.ofInt x = y
  have : (y &&& Int32.ofInt 1).toInt = ((y.toUInt32 &&& 1).toNat : Int) := by
    have e : (y &&& Int32.ofInt 1) = (y.toUInt32 &&& 1).toInt32 := rfl
    rw [e]
    have h1 : (y.toUInt32 &&& 1).toNat ≤ 1 := by
      rw [UInt32.toNat_and]
      exact Nat.and_le_right
    have h2 : ((y.toUInt32 &&& 1).toInt32).toInt = (y.toUInt32 &&& 1).toBitVec.toInt := rfl
    rw [h2, BitVec.toInt_eq_toNat_cond]
    have h3 : (y.toUInt32 &&& 1).toBitVec.toNat = (y.toUInt32 &&& 1).toNat := rfl
    rw [h3]
    have h7 : (2 : Nat) ^ 32 = 4294967296 := by decide
    rw [h7, if_pos (by omega)]
  rw [this]
  have h1 : (y.toUInt32 &&& 1).toNat ≤ 1 := by
    rw [UInt32.toNat_and]
    exact Nat.and_le_right
  omega
def sm (f : Int → Int) : Nat → Int
  | 0 => 0
  | n + 1 => sm f n + f (n : Int)
theorem sm_bd {f : Int → Int} {B : Int} : ∀ {n : Nat}, (∀ i : Nat, i < n → 0 ≤ f (i : Int) ∧ f (i : Int) ≤ B) → 0 ≤ sm f n ∧ sm f n ≤ B * (n : Int)
  | 0, _ => by simp [sm]
  | n + 1, hh => by
    obtain ⟨a1, a2⟩ := sm_bd (f := f) (B := B) (n := n) (fun i hi => hh i (by omega))
    obtain ⟨b1, b2⟩ := hh n (by omega)
    have e : B * ((n + 1 : Nat) : Int) = B * (n : Int) + B := by
      rw [show ((n + 1 : Nat) : Int) = (n : Int) + 1 by omega, Int.mul_add, Int.mul_one]
    rw [e]
    show 0 ≤ sm f n + f (n : Int) ∧ sm f n + f (n : Int) ≤ _
    omega
theorem sm_congr {f g : Int → Int} : ∀ {n : Nat}, (∀ i : Nat, i < n → f (i : Int) = g (i : Int)) → sm f n = sm g n
  | 0, _ => rfl
  | n + 1, hh => by
    show sm f n + f (n : Int) = sm g n + g (n : Int)
    rw [sm_congr (fun i hi => hh i (by omega)), hh n (by omega)]
theorem sm_zero {f : Int → Int} {n : Nat} : ∀ {m : Nat}, n ≤ m → (∀ i : Nat, n ≤ i → i < m → f (i : Int) = 0) → sm f m = sm f n
  | 0, h1, _ => by rw [show n = 0 by omega]
  | m + 1, h1, h2 => by
    by_cases hh : n = m + 1
    · rw [hh]
    · show sm f m + f (m : Int) = _
      rw [sm_zero (n := n) (m := m) (by omega) (fun i a b => h2 i a (by omega)), h2 m (by omega) (by omega)]
      omega
/-- a loop that counts up: its places in the order of the count -/
theorem lp_up {d m : Nat} {K : AK} (C : Nat → AC) (N : Nat) (step : ∀ k, k < N → WP d m (C (k + 1)) K → WP d m (C k) K) (fin : WP d m (C N) K) : WP d m (C 0) K := by
  have key : ∀ j, j ≤ N → WP d m (C (N - j)) K := by
    intro j
    induction j with
    | zero => intro _; exact fin
    | succ j ih =>
      intro hj
      refine step (N - (j + 1)) (by omega) ?_
      rw [show N - (j + 1) + 1 = N - j by omega]
      exact ih (by omega)
  have := key N (Nat.le_refl _)
  rwa [Nat.sub_self] at this
/-- a loop that counts up, over states that keep something -/
theorem lp_in {S : Type} {d m : Nat} {K : AK} (C : Nat → S → AC) (I : Nat → S → Prop) (N : Nat) (step : ∀ k s, k < N → I k s → (∀ s', I (k + 1) s' → WP d m (C (k + 1) s') K) → WP d m (C k s) K) (fin : ∀ s, I N s → WP d m (C N s) K) : ∀ s, I 0 s → WP d m (C 0 s) K := by
  have key : ∀ j, j ≤ N → ∀ s, I (N - j) s → WP d m (C (N - j) s) K := by
    intro j
    induction j with
    | zero => intro _ s hs; exact fin s hs
    | succ j ih =>
      intro hj s hs
      refine step (N - (j + 1)) s (by omega) hs ?_
      rw [show N - (j + 1) + 1 = N - j by omega]
      exact ih (by omega)
  have := key N (Nat.le_refl _)
  rwa [Nat.sub_self] at this
/-- the heap is the same but for the contents of the cells lo .. lo + n - 1, and what is new -/
def Fr (lo n : Int) (h h' : AH) : Prop := am_n h ≤ am_n h' ∧ am_sl h' = am_sl h ∧ (∀ j, am_sx h' j = am_sx h j) ∧ (∀ b, b < am_n h → am_t h' b = am_t h b ∧ am_l h' b = am_l h b) ∧ ∀ b, b < am_n h → ¬ (lo ≤ b ∧ b < lo + n) → ∀ i, am_m h' b i = am_m h b i
theorem Fr.rf {lo n : Int} {h : AH} : Fr lo n h h := ⟨Int.le_refl _, rfl, fun _ => rfl, fun _ _ => ⟨rfl, rfl⟩, fun _ _ _ _ => rfl⟩
theorem Fr.tr {lo n : Int} {h h1 h2 : AH} (a : Fr lo n h h1) (b : Fr lo n h1 h2) : Fr lo n h h2 := by
  obtain ⟨a1, a2, a3, a4, a5⟩ := a
  obtain ⟨b1, b2, b3, b4, b5⟩ := b
  refine ⟨by omega, b2.trans a2, fun j => (b3 j).trans (a3 j), fun q hq => ?_, fun q hq hn i => ?_⟩
  · have e1 := b4 q (by omega)
    have e2 := a4 q hq
    exact ⟨e1.1.trans e2.1, e1.2.trans e2.2⟩
  · rw [b5 q (by omega) hn i, a5 q hq hn i]
theorem Fr.w {lo n a i v : Int} {h h1 : AH} (x : Fr lo n h h1) (h2 : lo ≤ a) (h3 : a < lo + n) : Fr lo n h (am_w h1 a i v) := by
  obtain ⟨a1, a2, a3, a4, a5⟩ := x
  refine ⟨a1, a2, a3, a4, fun q hq hn j => ?_⟩
  rw [am_m_w, if_neg (by omega)]
  exact a5 q hq hn j
theorem Fr.wide {lo n lo' n' : Int} {h h1 : AH} (x : Fr lo n h h1) (h2 : lo' ≤ lo) (h3 : lo + n ≤ lo' + n') : Fr lo' n' h h1 := by
  obtain ⟨a1, a2, a3, a4, a5⟩ := x
  exact ⟨a1, a2, a3, a4, fun q hq hn j => a5 q hq (by omega) j⟩
