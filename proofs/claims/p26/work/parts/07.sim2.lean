section SIM
variable {G : am_En} {l : Launch} {d m : Nat} {p : Program} {e : Env} {R : Room} {s : State} {mth : MethodId} {args : Array Value} {below : List Frame} {meth : Method} {cd : Code} {Q : State → Prop} {K : AK} {X : AX} {Z : AC → Prop} {hs : List (Nat × Nat × Nat × Nat)}
variable {pc : Nat} {ls st : List AV} {h : AH} {c s0 : Nat}
theorem am_bits (x : UInt64) : UInt64.ofNat ((x.toNat : Int)).toNat = x := by simp
theorem am_i2c_eq (x : Int32) : am_i2c x.toInt = ((x.toUInt32 % 65536).toInt32).toInt := by
  unfold am_i2c
  have h1 : x.toInt = x.toBitVec.toInt := rfl
  have h2 := BitVec.toInt_eq_toNat_cond x.toBitVec
  have h3 : ((x.toUInt32 % 65536).toInt32).toInt = (x.toUInt32 % 65536).toBitVec.toInt := rfl
  have h4 := BitVec.toInt_eq_toNat_cond (x.toUInt32 % 65536).toBitVec
  have h5 : (x.toUInt32 % 65536).toBitVec.toNat = x.toBitVec.toNat % 65536 := by
    show (x.toUInt32 % 65536).toNat = _
    rw [UInt32.toNat_mod]
    rfl
  have h6 : x.toBitVec.toNat < 4294967296 := x.toBitVec.isLt
  rw [h1, h2, h3, h4, h5]
  have h7 : (2 : Nat) ^ 32 = 4294967296 := by decide
  rw [h7]
  split <;> split <;> omega
theorem am_z_eq_t {x : Int32} (z : x = 0) : x.toInt = 0 := by rw [z]; rfl
theorem am_z_eq_f {x : Int32} (z : ¬ x = 0) : ¬ x.toInt = 0 := fun q => z (Int32.toInt_inj.mp q)
theorem am_z_ne_t {x : Int32} (z : ¬ x = 0) : ¬ x.toInt = 0 := fun q => z (Int32.toInt_inj.mp q)
theorem am_z_ne_f {x : Int32} (z : x = 0) : x.toInt = 0 := by rw [z]; rfl
theorem am_z_lt_t {x : Int32} (z : x < 0) : x.toInt < 0 := Int32.lt_iff_toInt_lt.mp z
theorem am_z_lt_f {x : Int32} (z : ¬ x < 0) : ¬ x.toInt < 0 := fun q => z (Int32.lt_iff_toInt_lt.mpr q)
theorem am_z_ge_t {x : Int32} (z : 0 ≤ x) : ¬ x.toInt < 0 := Int.not_lt.mpr (Int32.le_iff_toInt_le.mp z)
theorem am_z_ge_f {x : Int32} (z : ¬ 0 ≤ x) : x.toInt < 0 := Int.not_le.mp fun q => z (Int32.le_iff_toInt_le.mpr q)
theorem am_z_gt_t {x : Int32} (z : 0 < x) : 0 < x.toInt := Int32.lt_iff_toInt_lt.mp z
theorem am_z_gt_f {x : Int32} (z : ¬ 0 < x) : ¬ 0 < x.toInt := fun q => z (Int32.lt_iff_toInt_lt.mpr q)
theorem am_z_le_t {x : Int32} (z : x ≤ 0) : ¬ 0 < x.toInt := Int.not_lt.mpr (Int32.le_iff_toInt_le.mp z)
theorem am_z_le_f {x : Int32} (z : ¬ x ≤ 0) : 0 < x.toInt := Int.not_le.mp fun q => z (Int32.le_iff_toInt_le.mpr q)
theorem am_c_eq_t {x y : Int32} (z : x = y) : x.toInt = y.toInt := by rw [z]
theorem am_c_eq_f {x y : Int32} (z : ¬ x = y) : ¬ x.toInt = y.toInt := fun q => z (Int32.toInt_inj.mp q)
theorem am_c_ne_t {x y : Int32} (z : ¬ x = y) : ¬ x.toInt = y.toInt := fun q => z (Int32.toInt_inj.mp q)
theorem am_c_ne_f {x y : Int32} (z : x = y) : x.toInt = y.toInt := by rw [z]
theorem am_c_lt_t {x y : Int32} (z : x < y) : x.toInt < y.toInt := Int32.lt_iff_toInt_lt.mp z
theorem am_c_lt_f {x y : Int32} (z : ¬ x < y) : ¬ x.toInt < y.toInt := fun q => z (Int32.lt_iff_toInt_lt.mpr q)
theorem am_c_ge_t {x y : Int32} (z : y ≤ x) : ¬ x.toInt < y.toInt := Int.not_lt.mpr (Int32.le_iff_toInt_le.mp z)
theorem am_c_ge_f {x y : Int32} (z : ¬ y ≤ x) : x.toInt < y.toInt := Int.not_le.mp fun q => z (Int32.le_iff_toInt_le.mpr q)
theorem am_c_gt_t {x y : Int32} (z : y < x) : y.toInt < x.toInt := Int32.lt_iff_toInt_lt.mp z
theorem am_c_gt_f {x y : Int32} (z : ¬ y < x) : ¬ y.toInt < x.toInt := fun q => z (Int32.lt_iff_toInt_lt.mpr q)
theorem am_c_le_t {x y : Int32} (z : x ≤ y) : ¬ y.toInt < x.toInt := Int.not_lt.mpr (Int32.le_iff_toInt_le.mp z)
theorem am_c_le_f {x y : Int32} (z : ¬ x ≤ y) : y.toInt < x.toInt := Int.not_le.mp fun q => z (Int32.le_iff_toInt_le.mpr q)
theorem am_ofInt {n : Int} (hn : -2147483648 ≤ n ∧ n < 2147483648) : (Int32.ofInt n).toInt = n := by
  rw [Int32.toInt_ofInt]
  show n.bmod 4294967296 = n
  rw [Int.bmod_eq_of_le] <;> omega
theorem am_bi {n : Int} (hn : -128 ≤ n ∧ n < 128) : (Int8.ofInt n).toInt32 = Int32.ofInt n := by
  apply Int32.toInt_inj.mp
  rw [am_ofInt (by omega), Int8.toInt_toInt32, Int8.toInt_ofInt]
  show n.bmod 256 = n
  rw [Int.bmod_eq_of_le] <;> omega
theorem am_si {n : Int} (hn : -32768 ≤ n ∧ n < 32768) : (Int16.ofInt n).toInt32 = Int32.ofInt n := by
  apply Int32.toInt_inj.mp
  rw [am_ofInt (by omega), Int16.toInt_toInt32, Int16.toInt_ofInt]
  show n.bmod 65536 = n
  rw [Int.bmod_eq_of_le] <;> omega
theorem am_RV_ref {v : AV} {V : Value} (h : am_RV G v V) (hv : v.1 = 2 ∨ v.1 = 4 ∨ v.1 = 5 ∨ v.1 = 7 ∨ v.1 = 11) : V = .null ∨ ∃ q, V = .ref q := by
  obtain ⟨t, a⟩ := v
  dsimp only at hv
  rcases hv with rfl | rfl | rfl | rfl | rfl
  · rcases h with ⟨-, rfl⟩ | ⟨-, rfl⟩
    · exact Or.inl rfl
    · exact Or.inr ⟨_, rfl⟩
  · exact Or.inr ⟨_, h⟩
  · exact Or.inr ⟨_, h.2.2⟩
  · exact Or.inr ⟨_, h.2.2⟩
  · exact h
theorem am_aloadnull {cc : ByteArray} {H : Heap} {locs : List Loc} {arr : Array Slot} {rest : List Value} (hexec : p.tables.exec = Jvm.exec) (hb : cd.code = cc) {i : Nat} (hdg : decode cc pc = .ok (.aload i, 2)) (hl : arr[i]? = some (.val .null))
    (k : W p l e R s mth args below meth cd H locs c s0 Q (F0 mth (pc + 2) arr (.null :: rest))) : W p l e R s mth args below meth cd H locs c s0 Q (F0 mth pc arr rest) := by
  intro T hT X
  obtain ⟨t, a, b⟩ := k T hT X
  refine ⟨t, ?_, b⟩
  jvm_step X.here [X.here.top, hexec, hb, hdg, hl, Value.isRef]
  exact a
theorem am_aloadnull_n {cc : ByteArray} {H : Heap} {locs : List Loc} {arr : Array Slot} {rest : List Value} (hexec : p.tables.exec = Jvm.exec) (hb : cd.code = cc) {k : Fin 4} {i : Nat} (hdg : decode cc pc = .ok (.aload_n k, 1)) (hi : (k : Nat) = i) (hl : arr[i]? = some (.val .null))
    (k : W p l e R s mth args below meth cd H locs c s0 Q (F0 mth (pc + 1) arr (.null :: rest))) : W p l e R s mth args below meth cd H locs c s0 Q (F0 mth pc arr rest) := by
  subst hi
  intro T hT X
  obtain ⟨t, a, b⟩ := k T hT X
  refine ⟨t, ?_, b⟩
  jvm_step X.here [X.here.top, hexec, hb, hdg, hl, Value.isRef]
  exact a
theorem am_i_iconst (C : am_Cx G l d m p R s mth args meth cd) {n : Int} (hn : -128 ≤ n ∧ n < 128) (hd : decode (am_cd m) pc = .ok (.iconst n, 1)) (w : am_stp X (am_Gl G m p l e R s mth args below meth cd Q) d hs K (am_go (pc + 1, ls, (0, n) :: st, h, c, s0))) : am_Gl G m p l e R s mth args below meth cd Q (pc, ls, st, h, c, s0) := by
  obtain ⟨hx, hb, hml, hown, hts, hW, hR, hlk, htr, hin⟩ := C
  intro H locs arr sv hH hS hL hst hc hs0
  dsimp only at hH hL hst hc hs0 ⊢
  refine lv_iconst (v := Int32.ofInt n) hx hb hd rfl ?_
  exact w H locs arr _ hH hS hL ⟨⟨_, rfl, (am_ofInt (by omega)).symm⟩, hst⟩ hc hs0
theorem am_i_bipush (C : am_Cx G l d m p R s mth args meth cd) {n : Int} (hn : -128 ≤ n ∧ n < 128) (hd : decode (am_cd m) pc = .ok (.bipush n, 2)) (w : am_stp X (am_Gl G m p l e R s mth args below meth cd Q) d hs K (am_go (pc + 2, ls, (0, n) :: st, h, c, s0))) : am_Gl G m p l e R s mth args below meth cd Q (pc, ls, st, h, c, s0) := by
  obtain ⟨hx, hb, hml, hown, hts, hW, hR, hlk, htr, hin⟩ := C
  intro H locs arr sv hH hS hL hst hc hs0
  dsimp only at hH hL hst hc hs0 ⊢
  refine lv_bipush (v := Int32.ofInt n) hx hb hd (am_bi hn) ?_
  exact w H locs arr _ hH hS hL ⟨⟨_, rfl, (am_ofInt (by omega)).symm⟩, hst⟩ hc hs0
theorem am_i_sipush (C : am_Cx G l d m p R s mth args meth cd) {n : Int} (hn : -32768 ≤ n ∧ n < 32768) (hd : decode (am_cd m) pc = .ok (.sipush n, 3)) (w : am_stp X (am_Gl G m p l e R s mth args below meth cd Q) d hs K (am_go (pc + 3, ls, (0, n) :: st, h, c, s0))) : am_Gl G m p l e R s mth args below meth cd Q (pc, ls, st, h, c, s0) := by
  obtain ⟨hx, hb, hml, hown, hts, hW, hR, hlk, htr, hin⟩ := C
  intro H locs arr sv hH hS hL hst hc hs0
  dsimp only at hH hL hst hc hs0 ⊢
  refine lv_sipush (v := Int32.ofInt n) hx hb hd (am_si hn) ?_
  exact w H locs arr _ hH hS hL ⟨⟨_, rfl, (am_ofInt (by omega)).symm⟩, hst⟩ hc hs0
theorem am_i_lconst (C : am_Cx G l d m p R s mth args meth cd) {n : Fin 2} (hd : decode (am_cd m) pc = .ok (.lconst n, 1)) (w : am_stp X (am_Gl G m p l e R s mth args below meth cd Q) d hs K (am_go (pc + 1, ls, (1, (n.val : Int)) :: st, h, c, s0))) : am_Gl G m p l e R s mth args below meth cd Q (pc, ls, st, h, c, s0) := by
  obtain ⟨hx, hb, hml, hown, hts, hW, hR, hlk, htr, hin⟩ := C
  intro H locs arr sv hH hS hL hst hc hs0
  dsimp only at hH hL hst hc hs0 ⊢
  refine lv_lconst hx hb hd rfl ?_
  refine w H locs arr _ hH hS hL ⟨⟨_, rfl, ?_⟩, hst⟩ hc hs0
  match n with
  | 0 => rfl
  | 1 => rfl
theorem am_i_dconst (C : am_Cx G l d m p R s mth args meth cd) (hd : decode (am_cd m) pc = .ok (.dconst 0, 1)) (w : am_stp X (am_Gl G m p l e R s mth args below meth cd Q) d hs K (am_go (pc + 1, ls, (3, 0) :: st, h, c, s0))) : am_Gl G m p l e R s mth args below meth cd Q (pc, ls, st, h, c, s0) := by
  obtain ⟨hx, hb, hml, hown, hts, hW, hR, hlk, htr, hin⟩ := C
  intro H locs arr sv hH hS hL hst hc hs0
  dsimp only at hH hL hst hc hs0 ⊢
  refine lv_dconst0 hx hb hd ?_
  exact w H locs arr _ hH hS hL ⟨⟨_, rfl, by decide +kernel⟩, hst⟩ hc hs0
theorem am_i_iload (C : am_Cx G l d m p R s mth args meth cd) {i : Nat} (hd : decode (am_cd m) pc = .ok (.iload i, 2)) (w : am_stp X (am_Gl G m p l e R s mth args below meth cd Q) d hs K (am_ld (am_get ls (i)) 0 fun v => am_go (pc + 2, ls, v :: st, h, c, s0))) : am_Gl G m p l e R s mth args below meth cd Q (pc, ls, st, h, c, s0) := by
  obtain ⟨hx, hb, hml, hown, hts, hW, hR, hlk, htr, hin⟩ := C
  obtain ⟨w, ht⟩ := am_ld_inv w
  have ht0 : (am_get ls (i)).1 = 0 := by rcases ht with z | z | z | z <;> first | exact z.1 | (have := z.2; omega)
  intro H locs arr sv hH hS hL hst hc hs0
  dsimp only at hH hL hst hc hs0 ⊢
  obtain ⟨V, e1, e2⟩ := am_rd hL (i := i) (by omega) (by omega)
  have e3 := e2
  unfold am_RV at e3
  rw [ht0] at e3
  obtain ⟨x, rfl, e4⟩ := e3
  refine lv_iload hx hb hd e1 ?_
  exact w H locs arr _ hH hS hL ⟨e2, hst⟩ hc hs0
theorem am_i_iload_n (C : am_Cx G l d m p R s mth args meth cd) {i : Fin 4} (hd : decode (am_cd m) pc = .ok (.iload_n i, 1)) (w : am_stp X (am_Gl G m p l e R s mth args below meth cd Q) d hs K (am_ld (am_get ls (i.val)) 0 fun v => am_go (pc + 1, ls, v :: st, h, c, s0))) : am_Gl G m p l e R s mth args below meth cd Q (pc, ls, st, h, c, s0) := by
  obtain ⟨hx, hb, hml, hown, hts, hW, hR, hlk, htr, hin⟩ := C
  obtain ⟨w, ht⟩ := am_ld_inv w
  have ht0 : (am_get ls (i.val)).1 = 0 := by rcases ht with z | z | z | z <;> first | exact z.1 | (have := z.2; omega)
  intro H locs arr sv hH hS hL hst hc hs0
  dsimp only at hH hL hst hc hs0 ⊢
  obtain ⟨V, e1, e2⟩ := am_rd hL (i := i.val) (by omega) (by omega)
  have e3 := e2
  unfold am_RV at e3
  rw [ht0] at e3
  obtain ⟨x, rfl, e4⟩ := e3
  refine lv_iload_n hx hb hd rfl e1 ?_
  exact w H locs arr _ hH hS hL ⟨e2, hst⟩ hc hs0
theorem am_i_lload (C : am_Cx G l d m p R s mth args meth cd) {i : Nat} (hd : decode (am_cd m) pc = .ok (.lload i, 2)) (w : am_stp X (am_Gl G m p l e R s mth args below meth cd Q) d hs K (am_ld2 (am_get ls (i)) (am_get ls (i + 1)) 1 fun v => am_go (pc + 2, ls, v :: st, h, c, s0))) : am_Gl G m p l e R s mth args below meth cd Q (pc, ls, st, h, c, s0) := by
  obtain ⟨hx, hb, hml, hown, hts, hW, hR, hlk, htr, hin⟩ := C
  obtain ⟨h8, w⟩ := am_ld2_inv w
  obtain ⟨w, ht⟩ := am_ld_inv w
  have ht0 : (am_get ls (i)).1 = 1 := by rcases ht with z | z | z | z <;> first | (have := z.2; omega) | (have := z.1; omega)
  intro H locs arr sv hH hS hL hst hc hs0
  dsimp only at hH hL hst hc hs0 ⊢
  obtain ⟨V, e1, e2⟩ := am_rd hL (i := i) (by omega) (fun _ => h8)
  have e3 := e2
  unfold am_RV at e3
  rw [ht0] at e3
  obtain ⟨x, rfl, e4⟩ := e3
  refine lv_lload hx hb hd e1 ?_
  exact w H locs arr _ hH hS hL ⟨e2, hst⟩ hc hs0
theorem am_i_lload_n (C : am_Cx G l d m p R s mth args meth cd) {i : Fin 4} (hd : decode (am_cd m) pc = .ok (.lload_n i, 1)) (w : am_stp X (am_Gl G m p l e R s mth args below meth cd Q) d hs K (am_ld2 (am_get ls (i.val)) (am_get ls (i.val + 1)) 1 fun v => am_go (pc + 1, ls, v :: st, h, c, s0))) : am_Gl G m p l e R s mth args below meth cd Q (pc, ls, st, h, c, s0) := by
  obtain ⟨hx, hb, hml, hown, hts, hW, hR, hlk, htr, hin⟩ := C
  obtain ⟨h8, w⟩ := am_ld2_inv w
  obtain ⟨w, ht⟩ := am_ld_inv w
  have ht0 : (am_get ls (i.val)).1 = 1 := by rcases ht with z | z | z | z <;> first | (have := z.2; omega) | (have := z.1; omega)
  intro H locs arr sv hH hS hL hst hc hs0
  dsimp only at hH hL hst hc hs0 ⊢
  obtain ⟨V, e1, e2⟩ := am_rd hL (i := i.val) (by omega) (fun _ => h8)
  have e3 := e2
  unfold am_RV at e3
  rw [ht0] at e3
  obtain ⟨x, rfl, e4⟩ := e3
  refine lv_lload_n hx hb hd rfl e1 ?_
  exact w H locs arr _ hH hS hL ⟨e2, hst⟩ hc hs0
theorem am_i_dload (C : am_Cx G l d m p R s mth args meth cd) {i : Nat} (hd : decode (am_cd m) pc = .ok (.dload i, 2)) (w : am_stp X (am_Gl G m p l e R s mth args below meth cd Q) d hs K (am_ld2 (am_get ls (i)) (am_get ls (i + 1)) 3 fun v => am_go (pc + 2, ls, v :: st, h, c, s0))) : am_Gl G m p l e R s mth args below meth cd Q (pc, ls, st, h, c, s0) := by
  obtain ⟨hx, hb, hml, hown, hts, hW, hR, hlk, htr, hin⟩ := C
  obtain ⟨h8, w⟩ := am_ld2_inv w
  obtain ⟨w, ht⟩ := am_ld_inv w
  have ht0 : (am_get ls (i)).1 = 3 := by rcases ht with z | z | z | z <;> first | (have := z.2; omega) | (have := z.1; omega)
  intro H locs arr sv hH hS hL hst hc hs0
  dsimp only at hH hL hst hc hs0 ⊢
  obtain ⟨V, e1, e2⟩ := am_rd hL (i := i) (by omega) (fun _ => h8)
  have e3 := e2
  unfold am_RV at e3
  rw [ht0] at e3
  obtain ⟨x, rfl, e4⟩ := e3
  refine lv_dload hx hb hd e1 ?_
  exact w H locs arr _ hH hS hL ⟨e2, hst⟩ hc hs0
theorem am_i_aload (C : am_Cx G l d m p R s mth args meth cd) {i : Nat} (hd : decode (am_cd m) pc = .ok (.aload i, 2)) (w : am_stp X (am_Gl G m p l e R s mth args below meth cd Q) d hs K (am_ld (am_get ls (i)) 2 fun v => am_go (pc + 2, ls, v :: st, h, c, s0))) : am_Gl G m p l e R s mth args below meth cd Q (pc, ls, st, h, c, s0) := by
  obtain ⟨hx, hb, hml, hown, hts, hW, hR, hlk, htr, hin⟩ := C
  obtain ⟨w, ht⟩ := am_ld_inv w
  have ht0 : (am_get ls (i)).1 = 2 ∨ (am_get ls (i)).1 = 4 ∨ (am_get ls (i)).1 = 5 ∨ (am_get ls (i)).1 = 7 ∨ (am_get ls (i)).1 = 11 := by rcases ht with z | z | z | z <;> first | exact z.1 | (have := z.2; omega)
  intro H locs arr sv hH hS hL hst hc hs0
  dsimp only at hH hL hst hc hs0 ⊢
  obtain ⟨V, e1, e2⟩ := am_rd hL (i := i) (by omega) (by omega)
  have key : V = .null ∨ ∃ q, V = .ref q := am_RV_ref e2 ht0
  have k2 := w H locs arr (V :: sv) hH hS hL ⟨e2, hst⟩ hc hs0
  rcases key with rfl | ⟨q, rfl⟩
  · exact am_aloadnull hx hb hd e1 k2
  · exact lv_aload hx hb hd e1 k2
theorem am_i_aload_n (C : am_Cx G l d m p R s mth args meth cd) {i : Fin 4} (hd : decode (am_cd m) pc = .ok (.aload_n i, 1)) (w : am_stp X (am_Gl G m p l e R s mth args below meth cd Q) d hs K (am_ld (am_get ls (i.val)) 2 fun v => am_go (pc + 1, ls, v :: st, h, c, s0))) : am_Gl G m p l e R s mth args below meth cd Q (pc, ls, st, h, c, s0) := by
  obtain ⟨hx, hb, hml, hown, hts, hW, hR, hlk, htr, hin⟩ := C
  obtain ⟨w, ht⟩ := am_ld_inv w
  have ht0 : (am_get ls (i.val)).1 = 2 ∨ (am_get ls (i.val)).1 = 4 ∨ (am_get ls (i.val)).1 = 5 ∨ (am_get ls (i.val)).1 = 7 ∨ (am_get ls (i.val)).1 = 11 := by rcases ht with z | z | z | z <;> first | exact z.1 | (have := z.2; omega)
  intro H locs arr sv hH hS hL hst hc hs0
  dsimp only at hH hL hst hc hs0 ⊢
  obtain ⟨V, e1, e2⟩ := am_rd hL (i := i.val) (by omega) (by omega)
  have key : V = .null ∨ ∃ q, V = .ref q := am_RV_ref e2 ht0
  have k2 := w H locs arr (V :: sv) hH hS hL ⟨e2, hst⟩ hc hs0
  rcases key with rfl | ⟨q, rfl⟩
  · exact am_aloadnull_n hx hb hd rfl e1 k2
  · exact lv_aload_n hx hb hd rfl e1 k2
theorem am_i_istore (C : am_Cx G l d m p R s mth args meth cd) {i : Nat} (hi : i < am_ml m) (hd : decode (am_cd m) pc = .ok (.istore i, 2)) (w : am_stp X (am_Gl G m p l e R s mth args below meth cd Q) d hs K (am_pI st fun a r => am_go (pc + 2, am_st1 ls (i) (0, a), r, h, c, s0))) : am_Gl G m p l e R s mth args below meth cd Q (pc, ls, st, h, c, s0) := by
  obtain ⟨hx, hb, hml, hown, hts, hW, hR, hlk, htr, hin⟩ := C
  have w1 := am_pI_inv w
  clear w
  obtain ⟨a, r, rfl, w⟩ := w1
  intro H locs arr sv hH hS hL hst hc hs0
  dsimp only at hH hL hst hc hs0 ⊢
  have hq := am_RS_inv hst
  clear hst
  obtain ⟨V, sv, rfl, hV0, hst⟩ := hq
  obtain ⟨x, rfl, rfl⟩ := hV0
  refine lv_istore hx hb hd (am_all_has hL.1 hL.2.2.1) hi rfl (fun arr' ha => ?_)
  exact w H locs arr' sv hH hS (am_wr1 hL hi ⟨x, rfl, rfl⟩ (by simp) (by simp) ha) hst hc hs0
theorem am_i_istore_n (C : am_Cx G l d m p R s mth args meth cd) {i : Fin 4} (hi : i.val < am_ml m) (hd : decode (am_cd m) pc = .ok (.istore_n i, 1)) (w : am_stp X (am_Gl G m p l e R s mth args below meth cd Q) d hs K (am_pI st fun a r => am_go (pc + 1, am_st1 ls (i.val) (0, a), r, h, c, s0))) : am_Gl G m p l e R s mth args below meth cd Q (pc, ls, st, h, c, s0) := by
  obtain ⟨hx, hb, hml, hown, hts, hW, hR, hlk, htr, hin⟩ := C
  have w1 := am_pI_inv w
  clear w
  obtain ⟨a, r, rfl, w⟩ := w1
  intro H locs arr sv hH hS hL hst hc hs0
  dsimp only at hH hL hst hc hs0 ⊢
  have hq := am_RS_inv hst
  clear hst
  obtain ⟨V, sv, rfl, hV0, hst⟩ := hq
  obtain ⟨x, rfl, rfl⟩ := hV0
  refine lv_istore_n hx hb hd rfl (am_all_has hL.1 hL.2.2.1) hi rfl (fun arr' ha => ?_)
  exact w H locs arr' sv hH hS (am_wr1 hL hi ⟨x, rfl, rfl⟩ (by simp) (by simp) ha) hst hc hs0
theorem am_i_astore (C : am_Cx G l d m p R s mth args meth cd) {i : Nat} (hi : i < am_ml m) {pr : Int → Prop} (hpr : ∀ a, pr a → ¬ a = -1) (hd : decode (am_cd m) pc = .ok (.astore i, 2)) (w : am_stp X (am_Gl G m p l e R s mth args below meth cd Q) d hs K (am_pA st (fun a r => am_ck (pr a) (pc + 2, am_st1 ls (i) (2, a), r, h, c, s0)) (fun r => am_go (pc + 2, am_st1 ls (i) (9, 0), r, h, c, s0)))) : am_Gl G m p l e R s mth args below meth cd Q (pc, ls, st, h, c, s0) := by
  obtain ⟨hx, hb, hml, hown, hts, hW, hR, hlk, htr, hin⟩ := C
  rcases am_pA_inv w with ⟨a, r, rfl, w⟩ | ⟨z, r, rfl, w⟩
  rotate_left
  intro H locs arr sv hH hS hL hst hc hs0
  dsimp only at hH hL hst hc hs0 ⊢
  have hq := am_RS_inv hst
  clear hst
  obtain ⟨V, sv, rfl, ⟨x, rfl⟩, hst⟩ := hq
  refine lv_astore hx hb hd (am_all_has hL.1 hL.2.2.1) hi rfl (fun arr' ha => ?_)
  exact w H locs arr' sv hH hS (am_wr0 hL hi ha) hst hc hs0
  obtain ⟨ha0, w⟩ := w
  intro H locs arr sv hH hS hL hst hc hs0
  dsimp only at hH hL hst hc hs0 ⊢
  have hq := am_RS_inv hst
  clear hst
  obtain ⟨V, sv, rfl, hV, hst⟩ := hq
  have hV2 := hV
  rcases hV with ⟨hV, -⟩ | ⟨-, rfl⟩
  · exact absurd hV (hpr _ ha0)
  refine lv_astore hx hb hd (am_all_has hL.1 hL.2.2.1) hi rfl (fun arr' ha => ?_)
  exact w H locs arr' sv hH hS (am_wr1 hL hi hV2 (by simp) (by simp) ha) hst hc hs0
theorem am_i_astore_n (C : am_Cx G l d m p R s mth args meth cd) {i : Fin 4} (hi : i.val < am_ml m) {pr : Int → Prop} (hpr : ∀ a, pr a → ¬ a = -1) (hd : decode (am_cd m) pc = .ok (.astore_n i, 1)) (w : am_stp X (am_Gl G m p l e R s mth args below meth cd Q) d hs K (am_pA st (fun a r => am_ck (pr a) (pc + 1, am_st1 ls (i.val) (2, a), r, h, c, s0)) (fun r => am_go (pc + 1, am_st1 ls (i.val) (9, 0), r, h, c, s0)))) : am_Gl G m p l e R s mth args below meth cd Q (pc, ls, st, h, c, s0) := by
  obtain ⟨hx, hb, hml, hown, hts, hW, hR, hlk, htr, hin⟩ := C
  rcases am_pA_inv w with ⟨a, r, rfl, w⟩ | ⟨z, r, rfl, w⟩
  rotate_left
  intro H locs arr sv hH hS hL hst hc hs0
  dsimp only at hH hL hst hc hs0 ⊢
  have hq := am_RS_inv hst
  clear hst
  obtain ⟨V, sv, rfl, ⟨x, rfl⟩, hst⟩ := hq
  refine lv_astore_n hx hb hd rfl (am_all_has hL.1 hL.2.2.1) hi rfl (fun arr' ha => ?_)
  exact w H locs arr' sv hH hS (am_wr0 hL hi ha) hst hc hs0
  obtain ⟨ha0, w⟩ := w
  intro H locs arr sv hH hS hL hst hc hs0
  dsimp only at hH hL hst hc hs0 ⊢
  have hq := am_RS_inv hst
  clear hst
  obtain ⟨V, sv, rfl, hV, hst⟩ := hq
  have hV2 := hV
  rcases hV with ⟨hV, -⟩ | ⟨-, rfl⟩
  · exact absurd hV (hpr _ ha0)
  refine lv_astore_n hx hb hd rfl (am_all_has hL.1 hL.2.2.1) hi rfl (fun arr' ha => ?_)
  exact w H locs arr' sv hH hS (am_wr1 hL hi hV2 (by simp) (by simp) ha) hst hc hs0
theorem am_i_lstore (C : am_Cx G l d m p R s mth args meth cd) {i : Nat} (hi : i + 1 < am_ml m) (hd : decode (am_cd m) pc = .ok (.lstore i, 2)) (w : am_stp X (am_Gl G m p l e R s mth args below meth cd Q) d hs K (am_pL st fun a r => am_go (pc + 2, am_st2 ls (i) (1, a), r, h, c, s0))) : am_Gl G m p l e R s mth args below meth cd Q (pc, ls, st, h, c, s0) := by
  obtain ⟨hx, hb, hml, hown, hts, hW, hR, hlk, htr, hin⟩ := C
  have w1 := am_pL_inv w
  clear w
  obtain ⟨a, r, rfl, w⟩ := w1
  intro H locs arr sv hH hS hL hst hc hs0
  dsimp only at hH hL hst hc hs0 ⊢
  have hq := am_RS_inv hst
  clear hst
  obtain ⟨V, sv, rfl, hV0, hst⟩ := hq
  obtain ⟨x, rfl, rfl⟩ := hV0
  refine lv_lstore hx hb hd (am_all_has hL.1 hL.2.2.1) hi rfl (fun arr' ha => ?_)
  exact w H locs arr' sv hH hS (am_wr2 hL hi ⟨x, rfl, rfl⟩ ha) hst hc hs0
theorem am_i_lstore_n (C : am_Cx G l d m p R s mth args meth cd) {i : Fin 4} (hi : i.val + 1 < am_ml m) (hd : decode (am_cd m) pc = .ok (.lstore_n i, 1)) (w : am_stp X (am_Gl G m p l e R s mth args below meth cd Q) d hs K (am_pL st fun a r => am_go (pc + 1, am_st2 ls (i.val) (1, a), r, h, c, s0))) : am_Gl G m p l e R s mth args below meth cd Q (pc, ls, st, h, c, s0) := by
  obtain ⟨hx, hb, hml, hown, hts, hW, hR, hlk, htr, hin⟩ := C
  have w1 := am_pL_inv w
  clear w
  obtain ⟨a, r, rfl, w⟩ := w1
  intro H locs arr sv hH hS hL hst hc hs0
  dsimp only at hH hL hst hc hs0 ⊢
  have hq := am_RS_inv hst
  clear hst
  obtain ⟨V, sv, rfl, hV0, hst⟩ := hq
  obtain ⟨x, rfl, rfl⟩ := hV0
  refine lv_lstore_n hx hb hd rfl (am_all_has hL.1 hL.2.2.1) hi rfl (fun arr' ha => ?_)
  exact w H locs arr' sv hH hS (am_wr2 hL hi ⟨x, rfl, rfl⟩ ha) hst hc hs0
theorem am_i_dstore (C : am_Cx G l d m p R s mth args meth cd) {i : Nat} (hi : i + 1 < am_ml m) (hd : decode (am_cd m) pc = .ok (.dstore i, 2)) (w : am_stp X (am_Gl G m p l e R s mth args below meth cd Q) d hs K (am_pD st fun a r => am_go (pc + 2, am_st2 ls (i) (3, a), r, h, c, s0))) : am_Gl G m p l e R s mth args below meth cd Q (pc, ls, st, h, c, s0) := by
  obtain ⟨hx, hb, hml, hown, hts, hW, hR, hlk, htr, hin⟩ := C
  have w1 := am_pD_inv w
  clear w
  obtain ⟨a, r, rfl, w⟩ := w1
  intro H locs arr sv hH hS hL hst hc hs0
  dsimp only at hH hL hst hc hs0 ⊢
  have hq := am_RS_inv hst
  clear hst
  obtain ⟨V, sv, rfl, hV0, hst⟩ := hq
  obtain ⟨x, rfl, rfl⟩ := hV0
  refine lv_dstore hx hb hd (am_all_has hL.1 hL.2.2.1) hi rfl (fun arr' ha => ?_)
  exact w H locs arr' sv hH hS (am_wr2 hL hi ⟨x, rfl, rfl⟩ ha) hst hc hs0
theorem am_i_iinc (C : am_Cx G l d m p R s mth args meth cd) {i : Nat} {n : Int} (hi : i < am_ml m) (hn : -32768 ≤ n ∧ n < 32768) (hd : decode (am_cd m) pc = .ok (.iinc i n, 3)) (w : am_stp X (am_Gl G m p l e R s mth args below meth cd Q) d hs K (am_ld (am_get ls i) 0 fun v => am_go (pc + 3, am_st1 ls i (0, w32 (v.2 + n)), st, h, c, s0))) : am_Gl G m p l e R s mth args below meth cd Q (pc, ls, st, h, c, s0) := by
  obtain ⟨hx, hb, hml, hown, hts, hW, hR, hlk, htr, hin⟩ := C
  obtain ⟨w, ht⟩ := am_ld_inv w
  have ht0 : (am_get ls i).1 = 0 := by rcases ht with z | z | z | z <;> first | exact z.1 | (have := z.2; omega)
  intro H locs arr sv hH hS hL hst hc hs0
  dsimp only at hH hL hst hc hs0 ⊢
  obtain ⟨V, e1, e2⟩ := am_rd hL (i := i) (by omega) (by omega)
  have e3 := e2
  unfold am_RV at e3
  rw [ht0] at e3
  obtain ⟨x, rfl, e4⟩ := e3
  obtain ⟨k, hk⟩ := List.getElem?_of_mem (am_all_mem (q := (i, .int x)).mpr e1)
  refine lv_iinc hx hb hd (am_all_has hL.1 hL.2.2.1) hk rfl hi rfl (fun arr' ha => ?_)
  refine w H locs arr' sv hH hS (am_wr1 hL hi ⟨_, rfl, ?_⟩ (by simp) (by simp) ha) hst hc hs0
  show w32 ((am_get ls i).2 + n) = _
  rw [e4, Int32.toInt_add, am_ofInt (by omega)]
  rfl
theorem am_i_iadd (C : am_Cx G l d m p R s mth args meth cd) (hd : decode (am_cd m) pc = .ok (.iadd, 1)) (w : am_stp X (am_Gl G m p l e R s mth args below meth cd Q) d hs K (am_pI st fun b r => am_pI r fun a r => am_go (pc + 1, ls, (0, w32 (a + b)) :: r, h, c, s0))) : am_Gl G m p l e R s mth args below meth cd Q (pc, ls, st, h, c, s0) := by
  obtain ⟨hx, hb, hml, hown, hts, hW, hR, hlk, htr, hin⟩ := C
  have w1 := am_pI_inv w
  clear w
  obtain ⟨b, r, rfl, w⟩ := w1
  have w1 := am_pI_inv w
  clear w
  obtain ⟨a, r, rfl, w⟩ := w1
  intro H locs arr sv hH hS hL hst hc hs0
  dsimp only at hH hL hst hc hs0 ⊢
  have hq := am_RS_inv hst
  clear hst
  obtain ⟨V2, sv, rfl, hV0, hst⟩ := hq
  obtain ⟨y, rfl, rfl⟩ := hV0
  have hq := am_RS_inv hst
  clear hst
  obtain ⟨V1, sv, rfl, hV0, hst⟩ := hq
  obtain ⟨x, rfl, rfl⟩ := hV0
  refine lv_iadd hx hb hd ?_
  refine w H locs arr _ hH hS hL ⟨⟨_, rfl, ?_⟩, hst⟩ hc hs0
  exact (Int32.toInt_add x y).symm
theorem am_i_isub (C : am_Cx G l d m p R s mth args meth cd) (hd : decode (am_cd m) pc = .ok (.isub, 1)) (w : am_stp X (am_Gl G m p l e R s mth args below meth cd Q) d hs K (am_pI st fun b r => am_pI r fun a r => am_go (pc + 1, ls, (0, w32 (a - b)) :: r, h, c, s0))) : am_Gl G m p l e R s mth args below meth cd Q (pc, ls, st, h, c, s0) := by
  obtain ⟨hx, hb, hml, hown, hts, hW, hR, hlk, htr, hin⟩ := C
  have w1 := am_pI_inv w
  clear w
  obtain ⟨b, r, rfl, w⟩ := w1
  have w1 := am_pI_inv w
  clear w
  obtain ⟨a, r, rfl, w⟩ := w1
  intro H locs arr sv hH hS hL hst hc hs0
  dsimp only at hH hL hst hc hs0 ⊢
  have hq := am_RS_inv hst
  clear hst
  obtain ⟨V2, sv, rfl, hV0, hst⟩ := hq
  obtain ⟨y, rfl, rfl⟩ := hV0
  have hq := am_RS_inv hst
  clear hst
  obtain ⟨V1, sv, rfl, hV0, hst⟩ := hq
  obtain ⟨x, rfl, rfl⟩ := hV0
  refine lv_isub hx hb hd ?_
  refine w H locs arr _ hH hS hL ⟨⟨_, rfl, ?_⟩, hst⟩ hc hs0
  exact (Int32.toInt_sub x y).symm
theorem am_i_imul (C : am_Cx G l d m p R s mth args meth cd) (hd : decode (am_cd m) pc = .ok (.imul, 1)) (w : am_stp X (am_Gl G m p l e R s mth args below meth cd Q) d hs K (am_pI st fun b r => am_pI r fun a r => am_go (pc + 1, ls, (0, w32 (a * b)) :: r, h, c, s0))) : am_Gl G m p l e R s mth args below meth cd Q (pc, ls, st, h, c, s0) := by
  obtain ⟨hx, hb, hml, hown, hts, hW, hR, hlk, htr, hin⟩ := C
  have w1 := am_pI_inv w
  clear w
  obtain ⟨b, r, rfl, w⟩ := w1
  have w1 := am_pI_inv w
  clear w
  obtain ⟨a, r, rfl, w⟩ := w1
  intro H locs arr sv hH hS hL hst hc hs0
  dsimp only at hH hL hst hc hs0 ⊢
  have hq := am_RS_inv hst
  clear hst
  obtain ⟨V2, sv, rfl, hV0, hst⟩ := hq
  obtain ⟨y, rfl, rfl⟩ := hV0
  have hq := am_RS_inv hst
  clear hst
  obtain ⟨V1, sv, rfl, hV0, hst⟩ := hq
  obtain ⟨x, rfl, rfl⟩ := hV0
  refine lv_imul hx hb hd ?_
  refine w H locs arr _ hH hS hL ⟨⟨_, rfl, ?_⟩, hst⟩ hc hs0
  exact (Int32.toInt_mul x y).symm
theorem am_i_iand (C : am_Cx G l d m p R s mth args meth cd) (hd : decode (am_cd m) pc = .ok (.iand, 1)) (w : am_stp X (am_Gl G m p l e R s mth args below meth cd Q) d hs K (am_pI st fun b r => am_pI r fun a r => am_go (pc + 1, ls, (0, am_and a b) :: r, h, c, s0))) : am_Gl G m p l e R s mth args below meth cd Q (pc, ls, st, h, c, s0) := by
  obtain ⟨hx, hb, hml, hown, hts, hW, hR, hlk, htr, hin⟩ := C
  have w1 := am_pI_inv w
  clear w
  obtain ⟨b, r, rfl, w⟩ := w1
  have w1 := am_pI_inv w
  clear w
  obtain ⟨a, r, rfl, w⟩ := w1
  intro H locs arr sv hH hS hL hst hc hs0
  dsimp only at hH hL hst hc hs0 ⊢
  have hq := am_RS_inv hst
  clear hst
  obtain ⟨V2, sv, rfl, hV0, hst⟩ := hq
  obtain ⟨y, rfl, rfl⟩ := hV0
  have hq := am_RS_inv hst
  clear hst
  obtain ⟨V1, sv, rfl, hV0, hst⟩ := hq
  obtain ⟨x, rfl, rfl⟩ := hV0
  refine lv_iand hx hb hd ?_
  refine w H locs arr _ hH hS hL ⟨⟨_, rfl, ?_⟩, hst⟩ hc hs0
  unfold am_and; rw [Int32.ofInt_toInt, Int32.ofInt_toInt]
theorem am_i_ior (C : am_Cx G l d m p R s mth args meth cd) (hd : decode (am_cd m) pc = .ok (.ior, 1)) (w : am_stp X (am_Gl G m p l e R s mth args below meth cd Q) d hs K (am_pI st fun b r => am_pI r fun a r => am_go (pc + 1, ls, (0, am_or a b) :: r, h, c, s0))) : am_Gl G m p l e R s mth args below meth cd Q (pc, ls, st, h, c, s0) := by
  obtain ⟨hx, hb, hml, hown, hts, hW, hR, hlk, htr, hin⟩ := C
  have w1 := am_pI_inv w
  clear w
  obtain ⟨b, r, rfl, w⟩ := w1
  have w1 := am_pI_inv w
  clear w
  obtain ⟨a, r, rfl, w⟩ := w1
  intro H locs arr sv hH hS hL hst hc hs0
  dsimp only at hH hL hst hc hs0 ⊢
  have hq := am_RS_inv hst
  clear hst
  obtain ⟨V2, sv, rfl, hV0, hst⟩ := hq
  obtain ⟨y, rfl, rfl⟩ := hV0
  have hq := am_RS_inv hst
  clear hst
  obtain ⟨V1, sv, rfl, hV0, hst⟩ := hq
  obtain ⟨x, rfl, rfl⟩ := hV0
  refine lv_ior hx hb hd ?_
  refine w H locs arr _ hH hS hL ⟨⟨_, rfl, ?_⟩, hst⟩ hc hs0
  unfold am_or; rw [Int32.ofInt_toInt, Int32.ofInt_toInt]
theorem am_i_ixor (C : am_Cx G l d m p R s mth args meth cd) (hd : decode (am_cd m) pc = .ok (.ixor, 1)) (w : am_stp X (am_Gl G m p l e R s mth args below meth cd Q) d hs K (am_pI st fun b r => am_pI r fun a r => am_go (pc + 1, ls, (0, am_xor a b) :: r, h, c, s0))) : am_Gl G m p l e R s mth args below meth cd Q (pc, ls, st, h, c, s0) := by
  obtain ⟨hx, hb, hml, hown, hts, hW, hR, hlk, htr, hin⟩ := C
  have w1 := am_pI_inv w
  clear w
  obtain ⟨b, r, rfl, w⟩ := w1
  have w1 := am_pI_inv w
  clear w
  obtain ⟨a, r, rfl, w⟩ := w1
  intro H locs arr sv hH hS hL hst hc hs0
  dsimp only at hH hL hst hc hs0 ⊢
  have hq := am_RS_inv hst
  clear hst
  obtain ⟨V2, sv, rfl, hV0, hst⟩ := hq
  obtain ⟨y, rfl, rfl⟩ := hV0
  have hq := am_RS_inv hst
  clear hst
  obtain ⟨V1, sv, rfl, hV0, hst⟩ := hq
  obtain ⟨x, rfl, rfl⟩ := hV0
  refine lv_ixor hx hb hd ?_
  refine w H locs arr _ hH hS hL ⟨⟨_, rfl, ?_⟩, hst⟩ hc hs0
  unfold am_xor; rw [Int32.ofInt_toInt, Int32.ofInt_toInt]
theorem am_i_ishl (C : am_Cx G l d m p R s mth args meth cd) (hd : decode (am_cd m) pc = .ok (.ishl, 1)) (w : am_stp X (am_Gl G m p l e R s mth args below meth cd Q) d hs K (am_pI st fun b r => am_pI r fun a r => am_go (pc + 1, ls, (0, am_shl a b) :: r, h, c, s0))) : am_Gl G m p l e R s mth args below meth cd Q (pc, ls, st, h, c, s0) := by
  obtain ⟨hx, hb, hml, hown, hts, hW, hR, hlk, htr, hin⟩ := C
  have w1 := am_pI_inv w
  clear w
  obtain ⟨b, r, rfl, w⟩ := w1
  have w1 := am_pI_inv w
  clear w
  obtain ⟨a, r, rfl, w⟩ := w1
  intro H locs arr sv hH hS hL hst hc hs0
  dsimp only at hH hL hst hc hs0 ⊢
  have hq := am_RS_inv hst
  clear hst
  obtain ⟨V2, sv, rfl, hV0, hst⟩ := hq
  obtain ⟨y, rfl, rfl⟩ := hV0
  have hq := am_RS_inv hst
  clear hst
  obtain ⟨V1, sv, rfl, hV0, hst⟩ := hq
  obtain ⟨x, rfl, rfl⟩ := hV0
  refine lv_ishl hx hb hd ?_
  refine w H locs arr _ hH hS hL ⟨⟨_, rfl, ?_⟩, hst⟩ hc hs0
  unfold am_shl; rw [Int32.ofInt_toInt, Int32.ofInt_toInt]
theorem am_i_ishr (C : am_Cx G l d m p R s mth args meth cd) (hd : decode (am_cd m) pc = .ok (.ishr, 1)) (w : am_stp X (am_Gl G m p l e R s mth args below meth cd Q) d hs K (am_pI st fun b r => am_pI r fun a r => am_go (pc + 1, ls, (0, am_shr a b) :: r, h, c, s0))) : am_Gl G m p l e R s mth args below meth cd Q (pc, ls, st, h, c, s0) := by
  obtain ⟨hx, hb, hml, hown, hts, hW, hR, hlk, htr, hin⟩ := C
  have w1 := am_pI_inv w
  clear w
  obtain ⟨b, r, rfl, w⟩ := w1
  have w1 := am_pI_inv w
  clear w
  obtain ⟨a, r, rfl, w⟩ := w1
  intro H locs arr sv hH hS hL hst hc hs0
  dsimp only at hH hL hst hc hs0 ⊢
  have hq := am_RS_inv hst
  clear hst
  obtain ⟨V2, sv, rfl, hV0, hst⟩ := hq
  obtain ⟨y, rfl, rfl⟩ := hV0
  have hq := am_RS_inv hst
  clear hst
  obtain ⟨V1, sv, rfl, hV0, hst⟩ := hq
  obtain ⟨x, rfl, rfl⟩ := hV0
  refine lv_ishr hx hb hd ?_
  refine w H locs arr _ hH hS hL ⟨⟨_, rfl, ?_⟩, hst⟩ hc hs0
  unfold am_shr; rw [Int32.ofInt_toInt, Int32.ofInt_toInt]
theorem am_i_iushr (C : am_Cx G l d m p R s mth args meth cd) (hd : decode (am_cd m) pc = .ok (.iushr, 1)) (w : am_stp X (am_Gl G m p l e R s mth args below meth cd Q) d hs K (am_pI st fun b r => am_pI r fun a r => am_go (pc + 1, ls, (0, am_ushr a b) :: r, h, c, s0))) : am_Gl G m p l e R s mth args below meth cd Q (pc, ls, st, h, c, s0) := by
  obtain ⟨hx, hb, hml, hown, hts, hW, hR, hlk, htr, hin⟩ := C
  have w1 := am_pI_inv w
  clear w
  obtain ⟨b, r, rfl, w⟩ := w1
  have w1 := am_pI_inv w
  clear w
  obtain ⟨a, r, rfl, w⟩ := w1
  intro H locs arr sv hH hS hL hst hc hs0
  dsimp only at hH hL hst hc hs0 ⊢
  have hq := am_RS_inv hst
  clear hst
  obtain ⟨V2, sv, rfl, hV0, hst⟩ := hq
  obtain ⟨y, rfl, rfl⟩ := hV0
  have hq := am_RS_inv hst
  clear hst
  obtain ⟨V1, sv, rfl, hV0, hst⟩ := hq
  obtain ⟨x, rfl, rfl⟩ := hV0
  refine lv_iushr hx hb hd rfl ?_
  refine w H locs arr _ hH hS hL ⟨⟨_, rfl, ?_⟩, hst⟩ hc hs0
  unfold am_ushr; rw [Int32.ofInt_toInt, Int32.ofInt_toInt]
theorem am_i_idiv (C : am_Cx G l d m p R s mth args meth cd) (hd : decode (am_cd m) pc = .ok (.idiv, 1)) (w : am_stp X (am_Gl G m p l e R s mth args below meth cd Q) d hs K (am_pI st fun b r => am_pI r fun a r => am_ck (¬ b = 0) (pc + 1, ls, (0, w32 (a.tdiv b)) :: r, h, c, s0))) : am_Gl G m p l e R s mth args below meth cd Q (pc, ls, st, h, c, s0) := by
  obtain ⟨hx, hb, hml, hown, hts, hW, hR, hlk, htr, hin⟩ := C
  have w1 := am_pI_inv w
  clear w
  obtain ⟨b, r, rfl, w⟩ := w1
  have w1 := am_pI_inv w
  clear w
  obtain ⟨a, r, rfl, w⟩ := w1
  obtain ⟨hne, w⟩ := w
  intro H locs arr sv hH hS hL hst hc hs0
  dsimp only at hH hL hst hc hs0 ⊢
  have hq := am_RS_inv hst
  clear hst
  obtain ⟨V2, sv, rfl, hV0, hst⟩ := hq
  obtain ⟨y, rfl, rfl⟩ := hV0
  have hq := am_RS_inv hst
  clear hst
  obtain ⟨V1, sv, rfl, hV0, hst⟩ := hq
  obtain ⟨x, rfl, rfl⟩ := hV0
  refine lv_idiv hx hb hd (fun z => hne (by rw [z]; rfl)) ?_
  refine w H locs arr _ hH hS hL ⟨⟨_, rfl, ?_⟩, hst⟩ hc hs0
  exact (Int32.toInt_div x y).symm
theorem am_i_irem (C : am_Cx G l d m p R s mth args meth cd) (hd : decode (am_cd m) pc = .ok (.irem, 1)) (w : am_stp X (am_Gl G m p l e R s mth args below meth cd Q) d hs K (am_pI st fun b r => am_pI r fun a r => am_ck (¬ b = 0) (pc + 1, ls, (0, a.tmod b) :: r, h, c, s0))) : am_Gl G m p l e R s mth args below meth cd Q (pc, ls, st, h, c, s0) := by
  obtain ⟨hx, hb, hml, hown, hts, hW, hR, hlk, htr, hin⟩ := C
  have w1 := am_pI_inv w
  clear w
  obtain ⟨b, r, rfl, w⟩ := w1
  have w1 := am_pI_inv w
  clear w
  obtain ⟨a, r, rfl, w⟩ := w1
  obtain ⟨hne, w⟩ := w
  intro H locs arr sv hH hS hL hst hc hs0
  dsimp only at hH hL hst hc hs0 ⊢
  have hq := am_RS_inv hst
  clear hst
  obtain ⟨V2, sv, rfl, hV0, hst⟩ := hq
  obtain ⟨y, rfl, rfl⟩ := hV0
  have hq := am_RS_inv hst
  clear hst
  obtain ⟨V1, sv, rfl, hV0, hst⟩ := hq
  obtain ⟨x, rfl, rfl⟩ := hV0
  refine lv_irem hx hb hd (fun z => hne (by rw [z]; rfl)) ?_
  refine w H locs arr _ hH hS hL ⟨⟨_, rfl, ?_⟩, hst⟩ hc hs0
  exact (rem_toInt x y).symm
theorem am_i_ineg (C : am_Cx G l d m p R s mth args meth cd) (hd : decode (am_cd m) pc = .ok (.ineg, 1)) (w : am_stp X (am_Gl G m p l e R s mth args below meth cd Q) d hs K (am_pI st fun a r => am_go (pc + 1, ls, (0, w32 (-a)) :: r, h, c, s0))) : am_Gl G m p l e R s mth args below meth cd Q (pc, ls, st, h, c, s0) := by
  obtain ⟨hx, hb, hml, hown, hts, hW, hR, hlk, htr, hin⟩ := C
  have w1 := am_pI_inv w
  clear w
  obtain ⟨a, r, rfl, w⟩ := w1
  intro H locs arr sv hH hS hL hst hc hs0
  dsimp only at hH hL hst hc hs0 ⊢
  have hq := am_RS_inv hst
  clear hst
  obtain ⟨V1, sv, rfl, hV0, hst⟩ := hq
  obtain ⟨x, rfl, rfl⟩ := hV0
  refine lv_ineg hx hb hd ?_
  refine w H locs arr _ hH hS hL ⟨⟨_, rfl, ?_⟩, hst⟩ hc hs0
  exact (Int32.toInt_neg x).symm
theorem am_i_i2l (C : am_Cx G l d m p R s mth args meth cd) (hd : decode (am_cd m) pc = .ok (.i2l, 1)) (w : am_stp X (am_Gl G m p l e R s mth args below meth cd Q) d hs K (am_pI st fun a r => am_go (pc + 1, ls, (1, a) :: r, h, c, s0))) : am_Gl G m p l e R s mth args below meth cd Q (pc, ls, st, h, c, s0) := by
  obtain ⟨hx, hb, hml, hown, hts, hW, hR, hlk, htr, hin⟩ := C
  have w1 := am_pI_inv w
  clear w
  obtain ⟨a, r, rfl, w⟩ := w1
  intro H locs arr sv hH hS hL hst hc hs0
  dsimp only at hH hL hst hc hs0 ⊢
  have hq := am_RS_inv hst
  clear hst
  obtain ⟨V1, sv, rfl, hV0, hst⟩ := hq
  obtain ⟨x, rfl, rfl⟩ := hV0
  refine lv_i2l hx hb hd rfl ?_
  refine w H locs arr _ hH hS hL ⟨⟨_, rfl, ?_⟩, hst⟩ hc hs0
  exact (Int32.toInt_toInt64 x).symm
theorem am_i_i2b (C : am_Cx G l d m p R s mth args meth cd) (hd : decode (am_cd m) pc = .ok (.i2b, 1)) (w : am_stp X (am_Gl G m p l e R s mth args below meth cd Q) d hs K (am_pI st fun a r => am_go (pc + 1, ls, (0, am_i2b a) :: r, h, c, s0))) : am_Gl G m p l e R s mth args below meth cd Q (pc, ls, st, h, c, s0) := by
  obtain ⟨hx, hb, hml, hown, hts, hW, hR, hlk, htr, hin⟩ := C
  have w1 := am_pI_inv w
  clear w
  obtain ⟨a, r, rfl, w⟩ := w1
  intro H locs arr sv hH hS hL hst hc hs0
  dsimp only at hH hL hst hc hs0 ⊢
  have hq := am_RS_inv hst
  clear hst
  obtain ⟨V1, sv, rfl, hV0, hst⟩ := hq
  obtain ⟨x, rfl, rfl⟩ := hV0
  refine lv_i2b hx hb hd rfl ?_
  refine w H locs arr _ hH hS hL ⟨⟨_, rfl, ?_⟩, hst⟩ hc hs0
  rw [Int8.toInt_toInt32, Int32.toInt_toInt8]; rfl
theorem am_i_i2c (C : am_Cx G l d m p R s mth args meth cd) (hd : decode (am_cd m) pc = .ok (.i2c, 1)) (w : am_stp X (am_Gl G m p l e R s mth args below meth cd Q) d hs K (am_pI st fun a r => am_go (pc + 1, ls, (0, am_i2c a) :: r, h, c, s0))) : am_Gl G m p l e R s mth args below meth cd Q (pc, ls, st, h, c, s0) := by
  obtain ⟨hx, hb, hml, hown, hts, hW, hR, hlk, htr, hin⟩ := C
  have w1 := am_pI_inv w
  clear w
  obtain ⟨a, r, rfl, w⟩ := w1
  intro H locs arr sv hH hS hL hst hc hs0
  dsimp only at hH hL hst hc hs0 ⊢
  have hq := am_RS_inv hst
  clear hst
  obtain ⟨V1, sv, rfl, hV0, hst⟩ := hq
  obtain ⟨x, rfl, rfl⟩ := hV0
  refine lv_i2c hx hb hd rfl ?_
  refine w H locs arr _ hH hS hL ⟨⟨_, rfl, ?_⟩, hst⟩ hc hs0
  exact am_i2c_eq x
theorem am_i_i2d (C : am_Cx G l d m p R s mth args meth cd) (hd : decode (am_cd m) pc = .ok (.i2d, 1)) (w : am_stp X (am_Gl G m p l e R s mth args below meth cd Q) d hs K (am_pI st fun a r => am_go (pc + 1, ls, (3, am_i2d a) :: r, h, c, s0))) : am_Gl G m p l e R s mth args below meth cd Q (pc, ls, st, h, c, s0) := by
  obtain ⟨hx, hb, hml, hown, hts, hW, hR, hlk, htr, hin⟩ := C
  have w1 := am_pI_inv w
  clear w
  obtain ⟨a, r, rfl, w⟩ := w1
  intro H locs arr sv hH hS hL hst hc hs0
  dsimp only at hH hL hst hc hs0 ⊢
  have hq := am_RS_inv hst
  clear hst
  obtain ⟨V1, sv, rfl, hV0, hst⟩ := hq
  obtain ⟨x, rfl, rfl⟩ := hV0
  refine lv_i2d hx hb hd ?_
  refine w H locs arr _ hH hS hL ⟨⟨_, rfl, ?_⟩, hst⟩ hc hs0
  unfold am_i2d; rw [Int32.ofInt_toInt]
theorem am_i_l2i (C : am_Cx G l d m p R s mth args meth cd) (hd : decode (am_cd m) pc = .ok (.l2i, 1)) (w : am_stp X (am_Gl G m p l e R s mth args below meth cd Q) d hs K (am_pL st fun a r => am_go (pc + 1, ls, (0, w32 a) :: r, h, c, s0))) : am_Gl G m p l e R s mth args below meth cd Q (pc, ls, st, h, c, s0) := by
  obtain ⟨hx, hb, hml, hown, hts, hW, hR, hlk, htr, hin⟩ := C
  have w1 := am_pL_inv w
  clear w
  obtain ⟨a, r, rfl, w⟩ := w1
  intro H locs arr sv hH hS hL hst hc hs0
  dsimp only at hH hL hst hc hs0 ⊢
  have hq := am_RS_inv hst
  clear hst
  obtain ⟨V1, sv, rfl, hV0, hst⟩ := hq
  obtain ⟨x, rfl, rfl⟩ := hV0
  refine lv_l2i hx hb hd rfl ?_
  refine w H locs arr _ hH hS hL ⟨⟨_, rfl, ?_⟩, hst⟩ hc hs0
  exact (Int64.toInt_toInt32 x).symm
theorem am_i_ladd (C : am_Cx G l d m p R s mth args meth cd) (hd : decode (am_cd m) pc = .ok (.ladd, 1)) (w : am_stp X (am_Gl G m p l e R s mth args below meth cd Q) d hs K (am_pL st fun b r => am_pL r fun a r => am_go (pc + 1, ls, (1, w64 (a + b)) :: r, h, c, s0))) : am_Gl G m p l e R s mth args below meth cd Q (pc, ls, st, h, c, s0) := by
  obtain ⟨hx, hb, hml, hown, hts, hW, hR, hlk, htr, hin⟩ := C
  have w1 := am_pL_inv w
  clear w
  obtain ⟨b, r, rfl, w⟩ := w1
  have w1 := am_pL_inv w
  clear w
  obtain ⟨a, r, rfl, w⟩ := w1
  intro H locs arr sv hH hS hL hst hc hs0
  dsimp only at hH hL hst hc hs0 ⊢
  have hq := am_RS_inv hst
  clear hst
  obtain ⟨V2, sv, rfl, hV0, hst⟩ := hq
  obtain ⟨y, rfl, rfl⟩ := hV0
  have hq := am_RS_inv hst
  clear hst
  obtain ⟨V1, sv, rfl, hV0, hst⟩ := hq
  obtain ⟨x, rfl, rfl⟩ := hV0
  refine lv_ladd hx hb hd ?_
  refine w H locs arr _ hH hS hL ⟨⟨_, rfl, ?_⟩, hst⟩ hc hs0
  exact (Int64.toInt_add x y).symm
theorem am_i_lsub (C : am_Cx G l d m p R s mth args meth cd) (hd : decode (am_cd m) pc = .ok (.lsub, 1)) (w : am_stp X (am_Gl G m p l e R s mth args below meth cd Q) d hs K (am_pL st fun b r => am_pL r fun a r => am_go (pc + 1, ls, (1, w64 (a - b)) :: r, h, c, s0))) : am_Gl G m p l e R s mth args below meth cd Q (pc, ls, st, h, c, s0) := by
  obtain ⟨hx, hb, hml, hown, hts, hW, hR, hlk, htr, hin⟩ := C
  have w1 := am_pL_inv w
  clear w
  obtain ⟨b, r, rfl, w⟩ := w1
  have w1 := am_pL_inv w
  clear w
  obtain ⟨a, r, rfl, w⟩ := w1
  intro H locs arr sv hH hS hL hst hc hs0
  dsimp only at hH hL hst hc hs0 ⊢
  have hq := am_RS_inv hst
  clear hst
  obtain ⟨V2, sv, rfl, hV0, hst⟩ := hq
  obtain ⟨y, rfl, rfl⟩ := hV0
  have hq := am_RS_inv hst
  clear hst
  obtain ⟨V1, sv, rfl, hV0, hst⟩ := hq
  obtain ⟨x, rfl, rfl⟩ := hV0
  refine lv_lsub hx hb hd ?_
  refine w H locs arr _ hH hS hL ⟨⟨_, rfl, ?_⟩, hst⟩ hc hs0
  exact (Int64.toInt_sub x y).symm
theorem am_i_lmul (C : am_Cx G l d m p R s mth args meth cd) (hd : decode (am_cd m) pc = .ok (.lmul, 1)) (w : am_stp X (am_Gl G m p l e R s mth args below meth cd Q) d hs K (am_pL st fun b r => am_pL r fun a r => am_go (pc + 1, ls, (1, w64 (a * b)) :: r, h, c, s0))) : am_Gl G m p l e R s mth args below meth cd Q (pc, ls, st, h, c, s0) := by
  obtain ⟨hx, hb, hml, hown, hts, hW, hR, hlk, htr, hin⟩ := C
  have w1 := am_pL_inv w
  clear w
  obtain ⟨b, r, rfl, w⟩ := w1
  have w1 := am_pL_inv w
  clear w
  obtain ⟨a, r, rfl, w⟩ := w1
  intro H locs arr sv hH hS hL hst hc hs0
  dsimp only at hH hL hst hc hs0 ⊢
  have hq := am_RS_inv hst
  clear hst
  obtain ⟨V2, sv, rfl, hV0, hst⟩ := hq
  obtain ⟨y, rfl, rfl⟩ := hV0
  have hq := am_RS_inv hst
  clear hst
  obtain ⟨V1, sv, rfl, hV0, hst⟩ := hq
  obtain ⟨x, rfl, rfl⟩ := hV0
  refine lv_lmul hx hb hd ?_
  refine w H locs arr _ hH hS hL ⟨⟨_, rfl, ?_⟩, hst⟩ hc hs0
  exact (Int64.toInt_mul x y).symm
theorem am_i_lcmp (C : am_Cx G l d m p R s mth args meth cd) (hd : decode (am_cd m) pc = .ok (.lcmp, 1)) (w : am_stp X (am_Gl G m p l e R s mth args below meth cd Q) d hs K (am_pL st fun b r => am_pL r fun a r => am_go (pc + 1, ls, (0, am_lcmp a b) :: r, h, c, s0))) : am_Gl G m p l e R s mth args below meth cd Q (pc, ls, st, h, c, s0) := by
  obtain ⟨hx, hb, hml, hown, hts, hW, hR, hlk, htr, hin⟩ := C
  have w1 := am_pL_inv w
  clear w
  obtain ⟨b, r, rfl, w⟩ := w1
  have w1 := am_pL_inv w
  clear w
  obtain ⟨a, r, rfl, w⟩ := w1
  intro H locs arr sv hH hS hL hst hc hs0
  dsimp only at hH hL hst hc hs0 ⊢
  have hq := am_RS_inv hst
  clear hst
  obtain ⟨V2, sv, rfl, hV0, hst⟩ := hq
  obtain ⟨y, rfl, rfl⟩ := hV0
  have hq := am_RS_inv hst
  clear hst
  obtain ⟨V1, sv, rfl, hV0, hst⟩ := hq
  obtain ⟨x, rfl, rfl⟩ := hV0
  refine W.lcmp hx hb hd ?_
  refine w H locs arr _ hH hS hL ⟨⟨_, rfl, ?_⟩, hst⟩ hc hs0
  show am_lcmp x.toInt y.toInt = (lg_cmp x y).toInt
  unfold am_lcmp lg_cmp
  by_cases h1 : y.toInt < x.toInt
  · rw [if_pos h1, if_pos (show x > y from Int64.lt_iff_toInt_lt.mpr h1)]
    rfl
  · rw [if_neg h1, if_neg (show ¬ x > y from fun z => h1 (Int64.lt_iff_toInt_lt.mp z))]
    by_cases h2 : x = y
    · rw [if_pos h2, if_pos (by rw [h2])]
      rfl
    · rw [if_neg h2, if_neg (fun z => h2 (Int64.toInt_inj.mp z))]
      rfl
theorem am_i_ddiv (C : am_Cx G l d m p R s mth args meth cd) (hd : decode (am_cd m) pc = .ok (.ddiv, 1)) (w : am_stp X (am_Gl G m p l e R s mth args below meth cd Q) d hs K (am_pD st fun b r => am_pD r fun a r => am_ck (vf_n64 (am_dd a b)) (pc + 1, ls, (3, ((am_dd a b).toNat : Int)) :: r, h, c, s0))) : am_Gl G m p l e R s mth args below meth cd Q (pc, ls, st, h, c, s0) := by
  obtain ⟨hx, hb, hml, hown, hts, hW, hR, hlk, htr, hin⟩ := C
  have w1 := am_pD_inv w
  clear w
  obtain ⟨b, r, rfl, w⟩ := w1
  have w1 := am_pD_inv w
  clear w
  obtain ⟨a, r, rfl, w⟩ := w1
  obtain ⟨hne, w⟩ := w
  intro H locs arr sv hH hS hL hst hc hs0
  dsimp only at hH hL hst hc hs0 ⊢
  have hq := am_RS_inv hst
  clear hst
  obtain ⟨V2, sv, rfl, hV0, hst⟩ := hq
  obtain ⟨y, rfl, rfl⟩ := hV0
  have hq := am_RS_inv hst
  clear hst
  obtain ⟨V1, sv, rfl, hV0, hst⟩ := hq
  obtain ⟨x, rfl, rfl⟩ := hV0
  have e1 : am_dd (x.toNat : Int) (y.toNat : Int) = FP.ddiv x y := by unfold am_dd; rw [am_bits, am_bits]
  rw [e1] at hne w
  refine lv_ddiv hx hb hd hne ?_
  exact w H locs arr _ hH hS hL ⟨⟨_, rfl, rfl⟩, hst⟩ hc hs0
theorem am_i_dcmpl (C : am_Cx G l d m p R s mth args meth cd) (hd : decode (am_cd m) pc = .ok (.dcmp .l, 1)) (w : am_stp X (am_Gl G m p l e R s mth args below meth cd Q) d hs K (am_pD st fun b r => am_pD r fun a r => am_go (pc + 1, ls, (0, am_dcl a b) :: r, h, c, s0))) : am_Gl G m p l e R s mth args below meth cd Q (pc, ls, st, h, c, s0) := by
  obtain ⟨hx, hb, hml, hown, hts, hW, hR, hlk, htr, hin⟩ := C
  have w1 := am_pD_inv w
  clear w
  obtain ⟨b, r, rfl, w⟩ := w1
  have w1 := am_pD_inv w
  clear w
  obtain ⟨a, r, rfl, w⟩ := w1
  intro H locs arr sv hH hS hL hst hc hs0
  dsimp only at hH hL hst hc hs0 ⊢
  have hq := am_RS_inv hst
  clear hst
  obtain ⟨V2, sv, rfl, hV0, hst⟩ := hq
  obtain ⟨y, rfl, rfl⟩ := hV0
  have hq := am_RS_inv hst
  clear hst
  obtain ⟨V1, sv, rfl, hV0, hst⟩ := hq
  obtain ⟨x, rfl, rfl⟩ := hV0
  refine lv_dcmp hx hb hd ?_
  refine w H locs arr _ hH hS hL ⟨⟨_, rfl, ?_⟩, hst⟩ hc hs0
  unfold am_dcl
  rw [am_bits, am_bits]
theorem am_i_dcmpg (C : am_Cx G l d m p R s mth args meth cd) (hd : decode (am_cd m) pc = .ok (.dcmp .g, 1)) (w : am_stp X (am_Gl G m p l e R s mth args below meth cd Q) d hs K (am_pD st fun b r => am_pD r fun a r => am_go (pc + 1, ls, (0, am_dcg a b) :: r, h, c, s0))) : am_Gl G m p l e R s mth args below meth cd Q (pc, ls, st, h, c, s0) := by
  obtain ⟨hx, hb, hml, hown, hts, hW, hR, hlk, htr, hin⟩ := C
  have w1 := am_pD_inv w
  clear w
  obtain ⟨b, r, rfl, w⟩ := w1
  have w1 := am_pD_inv w
  clear w
  obtain ⟨a, r, rfl, w⟩ := w1
  intro H locs arr sv hH hS hL hst hc hs0
  dsimp only at hH hL hst hc hs0 ⊢
  have hq := am_RS_inv hst
  clear hst
  obtain ⟨V2, sv, rfl, hV0, hst⟩ := hq
  obtain ⟨y, rfl, rfl⟩ := hV0
  have hq := am_RS_inv hst
  clear hst
  obtain ⟨V1, sv, rfl, hV0, hst⟩ := hq
  obtain ⟨x, rfl, rfl⟩ := hV0
  refine lv_dcmp hx hb hd ?_
  refine w H locs arr _ hH hS hL ⟨⟨_, rfl, ?_⟩, hst⟩ hc hs0
  unfold am_dcg
  rw [am_bits, am_bits]
theorem am_i_dup (C : am_Cx G l d m p R s mth args meth cd) (hd : decode (am_cd m) pc = .ok (.dup, 1)) (w : am_stp X (am_Gl G m p l e R s mth args below meth cd Q) d hs K (am_p1 st fun v r => am_go (pc + 1, ls, v :: v :: r, h, c, s0))) : am_Gl G m p l e R s mth args below meth cd Q (pc, ls, st, h, c, s0) := by
  obtain ⟨hx, hb, hml, hown, hts, hW, hR, hlk, htr, hin⟩ := C
  have w1 := am_p1_inv w
  clear w
  obtain ⟨v, r, rfl, hv, w⟩ := w1
  intro H locs arr sv hH hS hL hst hc hs0
  dsimp only at hH hL hst hc hs0 ⊢
  have hq := am_RS_inv hst
  clear hst
  obtain ⟨V, sv, rfl, hV, hst⟩ := hq
  refine lv_dup hx hb hd (am_RV_cat1 hV hv) ?_
  exact w H locs arr _ hH hS hL ⟨hV, hV, hst⟩ hc hs0
theorem am_i_pop (C : am_Cx G l d m p R s mth args meth cd) (hd : decode (am_cd m) pc = .ok (.pop, 1)) (w : am_stp X (am_Gl G m p l e R s mth args below meth cd Q) d hs K (am_p1 st fun _ r => am_go (pc + 1, ls, r, h, c, s0))) : am_Gl G m p l e R s mth args below meth cd Q (pc, ls, st, h, c, s0) := by
  obtain ⟨hx, hb, hml, hown, hts, hW, hR, hlk, htr, hin⟩ := C
  have w1 := am_p1_inv w
  clear w
  obtain ⟨v, r, rfl, hv, w⟩ := w1
  intro H locs arr sv hH hS hL hst hc hs0
  dsimp only at hH hL hst hc hs0 ⊢
  have hq := am_RS_inv hst
  clear hst
  obtain ⟨V, sv, rfl, hV, hst⟩ := hq
  refine lv_pop hx hb hd (am_RV_cat1 hV hv) ?_
  exact w H locs arr _ hH hS hL hst hc hs0
theorem am_i_dup2 (C : am_Cx G l d m p R s mth args meth cd) (hd : decode (am_cd m) pc = .ok (.dup2, 1)) (w : am_stp X (am_Gl G m p l e R s mth args below meth cd Q) d hs K (am_p1 st fun v r => am_p1 r fun w r => am_go (pc + 1, ls, v :: w :: v :: w :: r, h, c, s0))) : am_Gl G m p l e R s mth args below meth cd Q (pc, ls, st, h, c, s0) := by
  obtain ⟨hx, hb, hml, hown, hts, hW, hR, hlk, htr, hin⟩ := C
  have w1 := am_p1_inv w
  clear w
  obtain ⟨v, r, rfl, hv, w⟩ := w1
  have w1 := am_p1_inv w
  clear w
  obtain ⟨v2, r, rfl, hv2, w⟩ := w1
  intro H locs arr sv hH hS hL hst hc hs0
  dsimp only at hH hL hst hc hs0 ⊢
  have hq := am_RS_inv hst
  clear hst
  obtain ⟨V, sv, rfl, hV, hst⟩ := hq
  have hq := am_RS_inv hst
  clear hst
  obtain ⟨V2, sv, rfl, hV2, hst⟩ := hq
  refine lv_dup2_11 hx hb hd (am_RV_cat1 hV hv) (am_RV_cat1 hV2 hv2) ?_
  exact w H locs arr _ hH hS hL ⟨hV, hV2, hV, hV2, hst⟩ hc hs0
theorem am_i_if_eq (C : am_Cx G l d m p R s mth args meth cd) {off : Int} {r1 : Nat} (ht : (pc : Int) + off = (r1 : Int)) (hd : decode (am_cd m) pc = .ok (.ifCond .eq off, 3)) (w : am_stp X (am_Gl G m p l e R s mth args below meth cd Q) d hs K (am_pI st fun a r => am_br (a = 0) (r1, ls, r, h, c, s0) (pc + 3, ls, r, h, c, s0))) : am_Gl G m p l e R s mth args below meth cd Q (pc, ls, st, h, c, s0) := by
  obtain ⟨hx, hb, hml, hown, hts, hW, hR, hlk, htr, hin⟩ := C
  have w1 := am_pI_inv w
  clear w
  obtain ⟨a, r, rfl, w⟩ := w1
  intro H locs arr sv hH hS hL hst hc hs0
  dsimp only at hH hL hst hc hs0 ⊢
  have hq := am_RS_inv hst
  clear hst
  obtain ⟨V1, sv, rfl, hV0, hst⟩ := hq
  obtain ⟨x, rfl, rfl⟩ := hV0
  refine lv_if_eq (tgt := r1) hx hb hd ht (fun z => ?_) (fun z => ?_)
  · exact w.1 (am_z_eq_t z) H locs arr _ hH hS hL hst hc hs0
  · exact w.2 (am_z_eq_f z) H locs arr _ hH hS hL hst hc hs0
theorem am_i_icmp_eq (C : am_Cx G l d m p R s mth args meth cd) {off : Int} {r1 : Nat} (ht : (pc : Int) + off = (r1 : Int)) (hd : decode (am_cd m) pc = .ok (.if_icmp .eq off, 3)) (w : am_stp X (am_Gl G m p l e R s mth args below meth cd Q) d hs K (am_pI st fun b r => am_pI r fun a r => am_br (a = b) (r1, ls, r, h, c, s0) (pc + 3, ls, r, h, c, s0))) : am_Gl G m p l e R s mth args below meth cd Q (pc, ls, st, h, c, s0) := by
  obtain ⟨hx, hb, hml, hown, hts, hW, hR, hlk, htr, hin⟩ := C
  have w1 := am_pI_inv w
  clear w
  obtain ⟨b, r, rfl, w⟩ := w1
  have w1 := am_pI_inv w
  clear w
  obtain ⟨a, r, rfl, w⟩ := w1
  intro H locs arr sv hH hS hL hst hc hs0
  dsimp only at hH hL hst hc hs0 ⊢
  have hq := am_RS_inv hst
  clear hst
  obtain ⟨V2, sv, rfl, hV0, hst⟩ := hq
  obtain ⟨y, rfl, rfl⟩ := hV0
  have hq := am_RS_inv hst
  clear hst
  obtain ⟨V1, sv, rfl, hV0, hst⟩ := hq
  obtain ⟨x, rfl, rfl⟩ := hV0
  refine lv_icmp_eq (tgt := r1) hx hb hd ht (fun z => ?_) (fun z => ?_)
  · exact w.1 (am_c_eq_t z) H locs arr _ hH hS hL hst hc hs0
  · exact w.2 (am_c_eq_f z) H locs arr _ hH hS hL hst hc hs0
theorem am_i_if_ne (C : am_Cx G l d m p R s mth args meth cd) {off : Int} {r1 : Nat} (ht : (pc : Int) + off = (r1 : Int)) (hd : decode (am_cd m) pc = .ok (.ifCond .ne off, 3)) (w : am_stp X (am_Gl G m p l e R s mth args below meth cd Q) d hs K (am_pI st fun a r => am_br (a = 0) (pc + 3, ls, r, h, c, s0) (r1, ls, r, h, c, s0))) : am_Gl G m p l e R s mth args below meth cd Q (pc, ls, st, h, c, s0) := by
  obtain ⟨hx, hb, hml, hown, hts, hW, hR, hlk, htr, hin⟩ := C
  have w1 := am_pI_inv w
  clear w
  obtain ⟨a, r, rfl, w⟩ := w1
  intro H locs arr sv hH hS hL hst hc hs0
  dsimp only at hH hL hst hc hs0 ⊢
  have hq := am_RS_inv hst
  clear hst
  obtain ⟨V1, sv, rfl, hV0, hst⟩ := hq
  obtain ⟨x, rfl, rfl⟩ := hV0
  refine lv_if_ne (tgt := r1) hx hb hd ht (fun z => ?_) (fun z => ?_)
  · exact w.2 (am_z_ne_t z) H locs arr _ hH hS hL hst hc hs0
  · exact w.1 (am_z_ne_f z) H locs arr _ hH hS hL hst hc hs0
theorem am_i_icmp_ne (C : am_Cx G l d m p R s mth args meth cd) {off : Int} {r1 : Nat} (ht : (pc : Int) + off = (r1 : Int)) (hd : decode (am_cd m) pc = .ok (.if_icmp .ne off, 3)) (w : am_stp X (am_Gl G m p l e R s mth args below meth cd Q) d hs K (am_pI st fun b r => am_pI r fun a r => am_br (a = b) (pc + 3, ls, r, h, c, s0) (r1, ls, r, h, c, s0))) : am_Gl G m p l e R s mth args below meth cd Q (pc, ls, st, h, c, s0) := by
  obtain ⟨hx, hb, hml, hown, hts, hW, hR, hlk, htr, hin⟩ := C
  have w1 := am_pI_inv w
  clear w
  obtain ⟨b, r, rfl, w⟩ := w1
  have w1 := am_pI_inv w
  clear w
  obtain ⟨a, r, rfl, w⟩ := w1
  intro H locs arr sv hH hS hL hst hc hs0
  dsimp only at hH hL hst hc hs0 ⊢
  have hq := am_RS_inv hst
  clear hst
  obtain ⟨V2, sv, rfl, hV0, hst⟩ := hq
  obtain ⟨y, rfl, rfl⟩ := hV0
  have hq := am_RS_inv hst
  clear hst
  obtain ⟨V1, sv, rfl, hV0, hst⟩ := hq
  obtain ⟨x, rfl, rfl⟩ := hV0
  refine lv_icmp_ne (tgt := r1) hx hb hd ht (fun z => ?_) (fun z => ?_)
  · exact w.2 (am_c_ne_t z) H locs arr _ hH hS hL hst hc hs0
  · exact w.1 (am_c_ne_f z) H locs arr _ hH hS hL hst hc hs0
theorem am_i_if_lt (C : am_Cx G l d m p R s mth args meth cd) {off : Int} {r1 : Nat} (ht : (pc : Int) + off = (r1 : Int)) (hd : decode (am_cd m) pc = .ok (.ifCond .lt off, 3)) (w : am_stp X (am_Gl G m p l e R s mth args below meth cd Q) d hs K (am_pI st fun a r => am_br (a < 0) (r1, ls, r, h, c, s0) (pc + 3, ls, r, h, c, s0))) : am_Gl G m p l e R s mth args below meth cd Q (pc, ls, st, h, c, s0) := by
  obtain ⟨hx, hb, hml, hown, hts, hW, hR, hlk, htr, hin⟩ := C
  have w1 := am_pI_inv w
  clear w
  obtain ⟨a, r, rfl, w⟩ := w1
  intro H locs arr sv hH hS hL hst hc hs0
  dsimp only at hH hL hst hc hs0 ⊢
  have hq := am_RS_inv hst
  clear hst
  obtain ⟨V1, sv, rfl, hV0, hst⟩ := hq
  obtain ⟨x, rfl, rfl⟩ := hV0
  refine lv_if_lt (tgt := r1) hx hb hd ht (fun z => ?_) (fun z => ?_)
  · exact w.1 (am_z_lt_t z) H locs arr _ hH hS hL hst hc hs0
  · exact w.2 (am_z_lt_f z) H locs arr _ hH hS hL hst hc hs0
theorem am_i_icmp_lt (C : am_Cx G l d m p R s mth args meth cd) {off : Int} {r1 : Nat} (ht : (pc : Int) + off = (r1 : Int)) (hd : decode (am_cd m) pc = .ok (.if_icmp .lt off, 3)) (w : am_stp X (am_Gl G m p l e R s mth args below meth cd Q) d hs K (am_pI st fun b r => am_pI r fun a r => am_br (a < b) (r1, ls, r, h, c, s0) (pc + 3, ls, r, h, c, s0))) : am_Gl G m p l e R s mth args below meth cd Q (pc, ls, st, h, c, s0) := by
  obtain ⟨hx, hb, hml, hown, hts, hW, hR, hlk, htr, hin⟩ := C
  have w1 := am_pI_inv w
  clear w
  obtain ⟨b, r, rfl, w⟩ := w1
  have w1 := am_pI_inv w
  clear w
  obtain ⟨a, r, rfl, w⟩ := w1
  intro H locs arr sv hH hS hL hst hc hs0
  dsimp only at hH hL hst hc hs0 ⊢
  have hq := am_RS_inv hst
  clear hst
  obtain ⟨V2, sv, rfl, hV0, hst⟩ := hq
  obtain ⟨y, rfl, rfl⟩ := hV0
  have hq := am_RS_inv hst
  clear hst
  obtain ⟨V1, sv, rfl, hV0, hst⟩ := hq
  obtain ⟨x, rfl, rfl⟩ := hV0
  refine lv_icmp_lt (tgt := r1) hx hb hd ht (fun z => ?_) (fun z => ?_)
  · exact w.1 (am_c_lt_t z) H locs arr _ hH hS hL hst hc hs0
  · exact w.2 (am_c_lt_f z) H locs arr _ hH hS hL hst hc hs0
theorem am_i_if_ge (C : am_Cx G l d m p R s mth args meth cd) {off : Int} {r1 : Nat} (ht : (pc : Int) + off = (r1 : Int)) (hd : decode (am_cd m) pc = .ok (.ifCond .ge off, 3)) (w : am_stp X (am_Gl G m p l e R s mth args below meth cd Q) d hs K (am_pI st fun a r => am_br (a < 0) (pc + 3, ls, r, h, c, s0) (r1, ls, r, h, c, s0))) : am_Gl G m p l e R s mth args below meth cd Q (pc, ls, st, h, c, s0) := by
  obtain ⟨hx, hb, hml, hown, hts, hW, hR, hlk, htr, hin⟩ := C
  have w1 := am_pI_inv w
  clear w
  obtain ⟨a, r, rfl, w⟩ := w1
  intro H locs arr sv hH hS hL hst hc hs0
  dsimp only at hH hL hst hc hs0 ⊢
  have hq := am_RS_inv hst
  clear hst
  obtain ⟨V1, sv, rfl, hV0, hst⟩ := hq
  obtain ⟨x, rfl, rfl⟩ := hV0
  refine lv_if_ge (tgt := r1) hx hb hd ht (fun z => ?_) (fun z => ?_)
  · exact w.2 (am_z_ge_t z) H locs arr _ hH hS hL hst hc hs0
  · exact w.1 (am_z_ge_f z) H locs arr _ hH hS hL hst hc hs0
theorem am_i_icmp_ge (C : am_Cx G l d m p R s mth args meth cd) {off : Int} {r1 : Nat} (ht : (pc : Int) + off = (r1 : Int)) (hd : decode (am_cd m) pc = .ok (.if_icmp .ge off, 3)) (w : am_stp X (am_Gl G m p l e R s mth args below meth cd Q) d hs K (am_pI st fun b r => am_pI r fun a r => am_br (a < b) (pc + 3, ls, r, h, c, s0) (r1, ls, r, h, c, s0))) : am_Gl G m p l e R s mth args below meth cd Q (pc, ls, st, h, c, s0) := by
  obtain ⟨hx, hb, hml, hown, hts, hW, hR, hlk, htr, hin⟩ := C
  have w1 := am_pI_inv w
  clear w
  obtain ⟨b, r, rfl, w⟩ := w1
  have w1 := am_pI_inv w
  clear w
  obtain ⟨a, r, rfl, w⟩ := w1
  intro H locs arr sv hH hS hL hst hc hs0
  dsimp only at hH hL hst hc hs0 ⊢
  have hq := am_RS_inv hst
  clear hst
  obtain ⟨V2, sv, rfl, hV0, hst⟩ := hq
  obtain ⟨y, rfl, rfl⟩ := hV0
  have hq := am_RS_inv hst
  clear hst
  obtain ⟨V1, sv, rfl, hV0, hst⟩ := hq
  obtain ⟨x, rfl, rfl⟩ := hV0
  refine lv_icmp_ge (tgt := r1) hx hb hd ht (fun z => ?_) (fun z => ?_)
  · exact w.2 (am_c_ge_t z) H locs arr _ hH hS hL hst hc hs0
  · exact w.1 (am_c_ge_f z) H locs arr _ hH hS hL hst hc hs0
theorem am_i_if_gt (C : am_Cx G l d m p R s mth args meth cd) {off : Int} {r1 : Nat} (ht : (pc : Int) + off = (r1 : Int)) (hd : decode (am_cd m) pc = .ok (.ifCond .gt off, 3)) (w : am_stp X (am_Gl G m p l e R s mth args below meth cd Q) d hs K (am_pI st fun a r => am_br (0 < a) (r1, ls, r, h, c, s0) (pc + 3, ls, r, h, c, s0))) : am_Gl G m p l e R s mth args below meth cd Q (pc, ls, st, h, c, s0) := by
  obtain ⟨hx, hb, hml, hown, hts, hW, hR, hlk, htr, hin⟩ := C
  have w1 := am_pI_inv w
  clear w
  obtain ⟨a, r, rfl, w⟩ := w1
  intro H locs arr sv hH hS hL hst hc hs0
  dsimp only at hH hL hst hc hs0 ⊢
  have hq := am_RS_inv hst
  clear hst
  obtain ⟨V1, sv, rfl, hV0, hst⟩ := hq
  obtain ⟨x, rfl, rfl⟩ := hV0
  refine lv_if_gt (tgt := r1) hx hb hd ht (fun z => ?_) (fun z => ?_)
  · exact w.1 (am_z_gt_t z) H locs arr _ hH hS hL hst hc hs0
  · exact w.2 (am_z_gt_f z) H locs arr _ hH hS hL hst hc hs0
theorem am_i_icmp_gt (C : am_Cx G l d m p R s mth args meth cd) {off : Int} {r1 : Nat} (ht : (pc : Int) + off = (r1 : Int)) (hd : decode (am_cd m) pc = .ok (.if_icmp .gt off, 3)) (w : am_stp X (am_Gl G m p l e R s mth args below meth cd Q) d hs K (am_pI st fun b r => am_pI r fun a r => am_br (b < a) (r1, ls, r, h, c, s0) (pc + 3, ls, r, h, c, s0))) : am_Gl G m p l e R s mth args below meth cd Q (pc, ls, st, h, c, s0) := by
  obtain ⟨hx, hb, hml, hown, hts, hW, hR, hlk, htr, hin⟩ := C
  have w1 := am_pI_inv w
  clear w
  obtain ⟨b, r, rfl, w⟩ := w1
  have w1 := am_pI_inv w
  clear w
  obtain ⟨a, r, rfl, w⟩ := w1
  intro H locs arr sv hH hS hL hst hc hs0
  dsimp only at hH hL hst hc hs0 ⊢
  have hq := am_RS_inv hst
  clear hst
  obtain ⟨V2, sv, rfl, hV0, hst⟩ := hq
  obtain ⟨y, rfl, rfl⟩ := hV0
  have hq := am_RS_inv hst
  clear hst
  obtain ⟨V1, sv, rfl, hV0, hst⟩ := hq
  obtain ⟨x, rfl, rfl⟩ := hV0
  refine lv_icmp_gt (tgt := r1) hx hb hd ht (fun z => ?_) (fun z => ?_)
  · exact w.1 (am_c_gt_t z) H locs arr _ hH hS hL hst hc hs0
  · exact w.2 (am_c_gt_f z) H locs arr _ hH hS hL hst hc hs0
theorem am_i_if_le (C : am_Cx G l d m p R s mth args meth cd) {off : Int} {r1 : Nat} (ht : (pc : Int) + off = (r1 : Int)) (hd : decode (am_cd m) pc = .ok (.ifCond .le off, 3)) (w : am_stp X (am_Gl G m p l e R s mth args below meth cd Q) d hs K (am_pI st fun a r => am_br (0 < a) (pc + 3, ls, r, h, c, s0) (r1, ls, r, h, c, s0))) : am_Gl G m p l e R s mth args below meth cd Q (pc, ls, st, h, c, s0) := by
  obtain ⟨hx, hb, hml, hown, hts, hW, hR, hlk, htr, hin⟩ := C
  have w1 := am_pI_inv w
  clear w
  obtain ⟨a, r, rfl, w⟩ := w1
  intro H locs arr sv hH hS hL hst hc hs0
  dsimp only at hH hL hst hc hs0 ⊢
  have hq := am_RS_inv hst
  clear hst
  obtain ⟨V1, sv, rfl, hV0, hst⟩ := hq
  obtain ⟨x, rfl, rfl⟩ := hV0
  refine lv_if_le (tgt := r1) hx hb hd ht (fun z => ?_) (fun z => ?_)
  · exact w.2 (am_z_le_t z) H locs arr _ hH hS hL hst hc hs0
  · exact w.1 (am_z_le_f z) H locs arr _ hH hS hL hst hc hs0
theorem am_i_icmp_le (C : am_Cx G l d m p R s mth args meth cd) {off : Int} {r1 : Nat} (ht : (pc : Int) + off = (r1 : Int)) (hd : decode (am_cd m) pc = .ok (.if_icmp .le off, 3)) (w : am_stp X (am_Gl G m p l e R s mth args below meth cd Q) d hs K (am_pI st fun b r => am_pI r fun a r => am_br (b < a) (pc + 3, ls, r, h, c, s0) (r1, ls, r, h, c, s0))) : am_Gl G m p l e R s mth args below meth cd Q (pc, ls, st, h, c, s0) := by
  obtain ⟨hx, hb, hml, hown, hts, hW, hR, hlk, htr, hin⟩ := C
  have w1 := am_pI_inv w
  clear w
  obtain ⟨b, r, rfl, w⟩ := w1
  have w1 := am_pI_inv w
  clear w
  obtain ⟨a, r, rfl, w⟩ := w1
  intro H locs arr sv hH hS hL hst hc hs0
  dsimp only at hH hL hst hc hs0 ⊢
  have hq := am_RS_inv hst
  clear hst
  obtain ⟨V2, sv, rfl, hV0, hst⟩ := hq
  obtain ⟨y, rfl, rfl⟩ := hV0
  have hq := am_RS_inv hst
  clear hst
  obtain ⟨V1, sv, rfl, hV0, hst⟩ := hq
  obtain ⟨x, rfl, rfl⟩ := hV0
  refine lv_icmp_le (tgt := r1) hx hb hd ht (fun z => ?_) (fun z => ?_)
  · exact w.2 (am_c_le_t z) H locs arr _ hH hS hL hst hc hs0
  · exact w.1 (am_c_le_f z) H locs arr _ hH hS hL hst hc hs0
theorem am_i_goto (C : am_Cx G l d m p R s mth args meth cd) {off : Int} {r1 : Nat} (ht : (pc : Int) + off = (r1 : Int)) (hd : decode (am_cd m) pc = .ok (.goto off, 3)) (w : am_stp X (am_Gl G m p l e R s mth args below meth cd Q) d hs K (am_go (r1, ls, st, h, c, s0))) : am_Gl G m p l e R s mth args below meth cd Q (pc, ls, st, h, c, s0) := by
  obtain ⟨hx, hb, hml, hown, hts, hW, hR, hlk, htr, hin⟩ := C
  intro H locs arr sv hH hS hL hst hc hs0
  dsimp only at hH hL hst hc hs0 ⊢
  refine lv_goto (tgt := r1) hx hb hd ht ?_
  exact w H locs arr _ hH hS hL hst hc hs0
theorem am_i_dmul (C : am_Cx G l d m p R s mth args meth cd) (hd : decode (am_cd m) pc = .ok (.dmul, 1)) (w : am_stp X (am_Gl G m p l e R s mth args below meth cd Q) d hs K (am_pD st fun b r => am_pD r fun a r => am_ck (vf_n64 (am_dm a b)) (pc + 1, ls, (3, ((am_dm a b).toNat : Int)) :: r, h, c, s0))) : am_Gl G m p l e R s mth args below meth cd Q (pc, ls, st, h, c, s0) := by
  obtain ⟨hx, hb, hml, hown, hts, hW, hR, hlk, htr, hin⟩ := C
  have w1 := am_pD_inv w
  clear w
  obtain ⟨b, r, rfl, w⟩ := w1
  have w1 := am_pD_inv w
  clear w
  obtain ⟨a, r, rfl, w⟩ := w1
  obtain ⟨hne, w⟩ := w
  intro H locs arr sv hH hS hL hst hc hs0
  dsimp only at hH hL hst hc hs0 ⊢
  have hq := am_RS_inv hst
  clear hst
  obtain ⟨V2, sv, rfl, hV0, hst⟩ := hq
  obtain ⟨y, rfl, rfl⟩ := hV0
  have hq := am_RS_inv hst
  clear hst
  obtain ⟨V1, sv, rfl, hV0, hst⟩ := hq
  obtain ⟨x, rfl, rfl⟩ := hV0
  have e1 : am_dm (x.toNat : Int) (y.toNat : Int) = FP.dmul x y := by unfold am_dm; rw [am_bits, am_bits]
  rw [e1] at hne w
  refine lv_dmul hx hb hd hne ?_
  exact w H locs arr _ hH hS hL ⟨⟨_, rfl, rfl⟩, hst⟩ hc hs0
theorem am_i_dsub (C : am_Cx G l d m p R s mth args meth cd) (hd : decode (am_cd m) pc = .ok (.dsub, 1)) (w : am_stp X (am_Gl G m p l e R s mth args below meth cd Q) d hs K (am_pD st fun b r => am_pD r fun a r => am_ck (vf_n64 (am_ds a b)) (pc + 1, ls, (3, ((am_ds a b).toNat : Int)) :: r, h, c, s0))) : am_Gl G m p l e R s mth args below meth cd Q (pc, ls, st, h, c, s0) := by
  obtain ⟨hx, hb, hml, hown, hts, hW, hR, hlk, htr, hin⟩ := C
  have w1 := am_pD_inv w
  clear w
  obtain ⟨b, r, rfl, w⟩ := w1
  have w1 := am_pD_inv w
  clear w
  obtain ⟨a, r, rfl, w⟩ := w1
  obtain ⟨hne, w⟩ := w
  intro H locs arr sv hH hS hL hst hc hs0
  dsimp only at hH hL hst hc hs0 ⊢
  have hq := am_RS_inv hst
  clear hst
  obtain ⟨V2, sv, rfl, hV0, hst⟩ := hq
  obtain ⟨y, rfl, rfl⟩ := hV0
  have hq := am_RS_inv hst
  clear hst
  obtain ⟨V1, sv, rfl, hV0, hst⟩ := hq
  obtain ⟨x, rfl, rfl⟩ := hV0
  have e1 : am_ds (x.toNat : Int) (y.toNat : Int) = FP.dsub x y := by unfold am_ds; rw [am_bits, am_bits]
  rw [e1] at hne w
  refine lv_dsub hx hb hd hne ?_
  exact w H locs arr _ hH hS hL ⟨⟨_, rfl, rfl⟩, hst⟩ hc hs0
theorem am_i_land (C : am_Cx G l d m p R s mth args meth cd) (hd : decode (am_cd m) pc = .ok (.land, 1)) (w : am_stp X (am_Gl G m p l e R s mth args below meth cd Q) d hs K (am_pL st fun b r => am_pL r fun a r => am_go (pc + 1, ls, (1, am_land a b) :: r, h, c, s0))) : am_Gl G m p l e R s mth args below meth cd Q (pc, ls, st, h, c, s0) := by
  obtain ⟨hx, hb, hml, hown, hts, hW, hR, hlk, htr, hin⟩ := C
  have w1 := am_pL_inv w
  clear w
  obtain ⟨b, r, rfl, w⟩ := w1
  have w1 := am_pL_inv w
  clear w
  obtain ⟨a, r, rfl, w⟩ := w1
  intro H locs arr sv hH hS hL hst hc hs0
  dsimp only at hH hL hst hc hs0 ⊢
  have hq := am_RS_inv hst
  clear hst
  obtain ⟨V2, sv, rfl, hV0, hst⟩ := hq
  obtain ⟨y, rfl, rfl⟩ := hV0
  have hq := am_RS_inv hst
  clear hst
  obtain ⟨V1, sv, rfl, hV0, hst⟩ := hq
  obtain ⟨x, rfl, rfl⟩ := hV0
  refine lv_land hx hb hd ?_
  refine w H locs arr _ hH hS hL ⟨⟨_, rfl, ?_⟩, hst⟩ hc hs0
  show am_land x.toInt y.toInt = (x &&& y).toInt
  unfold am_land
  rw [Int64.ofInt_toInt, Int64.ofInt_toInt]
theorem am_i_dload_n (C : am_Cx G l d m p R s mth args meth cd) {i : Fin 4} (hd : decode (am_cd m) pc = .ok (.dload_n i, 1)) (w : am_stp X (am_Gl G m p l e R s mth args below meth cd Q) d hs K (am_ld2 (am_get ls i.val) (am_get ls (i.val + 1)) 3 fun v => am_go (pc + 1, ls, v :: st, h, c, s0))) : am_Gl G m p l e R s mth args below meth cd Q (pc, ls, st, h, c, s0) := by
  obtain ⟨hx, hb, hml, hown, hts, hW, hR, hlk, htr, hin⟩ := C
  obtain ⟨h8, w⟩ := am_ld2_inv w
  obtain ⟨w, ht⟩ := am_ld_inv w
  have ht0 : (am_get ls i.val).1 = 3 := by rcases ht with z | z | z | z <;> first | (have := z.2; omega) | (have := z.1; omega)
  intro H locs arr sv hH hS hL hst hc hs0
  dsimp only at hH hL hst hc hs0 ⊢
  obtain ⟨V, e1, e2⟩ := am_rd hL (i := i.val) (by omega) (fun _ => h8)
  have e3 := e2
  unfold am_RV at e3
  rw [ht0] at e3
  obtain ⟨x, rfl, e4⟩ := e3
  refine lv_dload_n hx hb hd rfl e1 ?_
  exact w H locs arr _ hH hS hL ⟨e2, hst⟩ hc hs0
theorem am_i_null (C : am_Cx G l d m p R s mth args meth cd) (hd : decode (am_cd m) pc = .ok (.aconst_null, 1)) (w : am_stp X (am_Gl G m p l e R s mth args below meth cd Q) d hs K (am_go (pc + 1, ls, (2, -1) :: st, h, c, s0))) : am_Gl G m p l e R s mth args below meth cd Q (pc, ls, st, h, c, s0) := by
  obtain ⟨hx, hb, hml, hown, hts, hW, hR, hlk, htr, hin⟩ := C
  intro H locs arr sv hH hS hL hst hc hs0
  dsimp only at hH hL hst hc hs0 ⊢
  refine lv_null hx hb hd ?_
  exact w H locs arr _ hH hS hL ⟨Or.inl ⟨rfl, rfl⟩, hst⟩ hc hs0
theorem am_i_ifnull (C : am_Cx G l d m p R s mth args meth cd) {off : Int} {r1 : Nat} (ht : (pc : Int) + off = (r1 : Int)) (hd : decode (am_cd m) pc = .ok (.ifnull off, 3)) (w : am_stp X (am_Gl G m p l e R s mth args below meth cd Q) d hs K (am_pR st fun a r => am_br (a = -1) (r1, ls, r, h, c, s0) (pc + 3, ls, r, h, c, s0))) : am_Gl G m p l e R s mth args below meth cd Q (pc, ls, st, h, c, s0) := by
  obtain ⟨hx, hb, hml, hown, hts, hW, hR, hlk, htr, hin⟩ := C
  have w1 := am_pR_inv w
  clear w
  obtain ⟨a, r, rfl, w⟩ := w1
  intro H locs arr sv hH hS hL hst hc hs0
  dsimp only at hH hL hst hc hs0 ⊢
  have hq := am_RS_inv hst
  clear hst
  obtain ⟨V1, sv, rfl, hV0, hst⟩ := hq
  rcases hV0 with ⟨hV, rfl⟩ | ⟨hV, rfl⟩
  · exact lv_ifnullN hx hb hd ht (w.1 hV H locs arr _ hH hS hL hst hc hs0)
  · exact lv_ifnull hx hb hd (w.2 hV H locs arr _ hH hS hL hst hc hs0)
theorem am_i_ifnonnull (C : am_Cx G l d m p R s mth args meth cd) {off : Int} {r1 : Nat} (ht : (pc : Int) + off = (r1 : Int)) (hd : decode (am_cd m) pc = .ok (.ifnonnull off, 3)) (w : am_stp X (am_Gl G m p l e R s mth args below meth cd Q) d hs K (am_pR st fun a r => am_br (a = -1) (pc + 3, ls, r, h, c, s0) (r1, ls, r, h, c, s0))) : am_Gl G m p l e R s mth args below meth cd Q (pc, ls, st, h, c, s0) := by
  obtain ⟨hx, hb, hml, hown, hts, hW, hR, hlk, htr, hin⟩ := C
  have w1 := am_pR_inv w
  clear w
  obtain ⟨a, r, rfl, w⟩ := w1
  intro H locs arr sv hH hS hL hst hc hs0
  dsimp only at hH hL hst hc hs0 ⊢
  have hq := am_RS_inv hst
  clear hst
  obtain ⟨V1, sv, rfl, hV0, hst⟩ := hq
  rcases hV0 with ⟨hV, rfl⟩ | ⟨hV, rfl⟩
  · exact lv_ifnonnullN hx hb hd (w.1 hV H locs arr _ hH hS hL hst hc hs0)
  · exact lv_ifnonnull hx hb hd ht (w.2 hV H locs arr _ hH hS hL hst hc hs0)
end SIM
