/-! ===== by hand: the reference ===== -/
theorem flip_rg {x n : Int} (h0 : 0 ≤ x) (h1 : x < 4096) (n0 : 0 ≤ n) (n1 : n < 12) : 0 ≤ am_xor x (am_shl 1 n) ∧ am_xor x (am_shl 1 n) < 4096 := by
  obtain ⟨k, rfl⟩ : ∃ k : Nat, n = (k : Int) := ⟨n.toNat, by omega⟩
  show 0 ≤ (BitVec.ofInt 32 x ^^^ BitVec.ofInt 32 (sh1 (k : Int))).toInt ∧ (BitVec.ofInt 32 x ^^^ BitVec.ofInt 32 (sh1 (k : Int))).toInt < 4096
  refine bv_int ?_
  rw [BitVec.toNat_xor]
  exact Nat.xor_lt_two_pow (n := 12) (bv_nat h0 h1) (sh1_rg k (by omega))
theorem flip_bit {x n m : Int} (n0 : 0 ≤ n) (n1 : n < 12) (m0 : 0 ≤ m) (m1 : m < 12) : bt (am_xor x (am_shl 1 n)) m = if m = n then 1 - bt x m else bt x m := by
  obtain ⟨k, rfl⟩ : ∃ k : Nat, n = (k : Int) := ⟨n.toNat, by omega⟩
  obtain ⟨j, rfl⟩ : ∃ j : Nat, m = (j : Int) := ⟨m.toNat, by omega⟩
  rw [bt_bv (by omega), bt_bv (by omega)]
  show (if (BitVec.ofInt 32 (BitVec.ofInt 32 x ^^^ BitVec.ofInt 32 (sh1 (k : Int))).toInt).getLsbD j = true then (1 : Int) else 0) = _
  rw [BitVec.ofInt_toInt, BitVec.getLsbD_xor, sh1_bit k (by omega) j (by omega)]
  by_cases z : j = k
  · subst z
    cases (BitVec.ofInt 32 x).getLsbD j <;> simp
  · have z2 : ¬ (j : Int) = (k : Int) := by omega
    simp [z, z2]
theorem th1 {h : AH} {v : Int} : am_m (am_w h 53 0 v) 53 0 = v := by rw [am_m_w, if_pos ⟨rfl, rfl⟩]
theorem su_id {ss : TT} {k : Nat} {i x : Int} (e : ss k i = x) : su ss k i x = ss := by
  funext k2 i2
  by_cases z : k2 = k ∧ i2 = i
  · obtain ⟨z1, z2⟩ := z
    subst z1
    subst z2
    rw [su_eq, e]
  · exact su_ne z