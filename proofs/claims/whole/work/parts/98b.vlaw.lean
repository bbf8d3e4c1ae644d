/-! ===== what is to be shown of the law ===== -/
/-- rows of a table's later pieces -/
def am_sub (S T : List am_E) : Prop := ∀ pc e, am_row S pc = some e → am_row T pc = some e
theorem am_row_pc : ∀ {S : List am_E} {pc : Nat} {e : am_E}, am_row S pc = some e → e.1 = pc ∧ e ∈ S
  | [], _, _, h => by cases h
  | a :: r, pc, e, h => by
    unfold am_row at h
    split at h
    · rename_i z
      cases h
      exact ⟨Nat.eq_of_beq_eq_true z, List.mem_cons_self ..⟩
    · have := am_row_pc h
      exact ⟨this.1, List.mem_cons_of_mem _ this.2⟩
theorem am_row_app1 : ∀ {A B : List am_E} {pc : Nat} {e : am_E}, am_row B pc = some e → (∀ a ∈ A, a.1 ≠ pc) → am_row (A ++ B) pc = some e
  | [], _, _, _, h, _ => h
  | a :: r, B, pc, e, h, n => by
    show am_row (a :: (r ++ B)) pc = some e
    unfold am_row
    split
    · rename_i z
      exact absurd (Nat.eq_of_beq_eq_true z) (n a (List.mem_cons_self ..))
    · exact am_row_app1 h (fun b hb => n b (List.mem_cons_of_mem _ hb))
theorem am_sub_app {A B : List am_E} (lo : Nat) (hA : A.all (fun a => Nat.blt a.1 lo) = true) (hB : B.all (fun a => Nat.ble lo a.1) = true) : am_sub B (A ++ B) := fun pc e h => am_row_app1 h (fun a ha => by
  have x := List.all_eq_true.1 hA a ha
  have y := am_row_pc h
  have z := List.all_eq_true.1 hB e y.2
  have x' := Nat.le_of_ble_eq_true x
  have z' := Nat.le_of_ble_eq_true z
  omega)
theorem am_sub.tr {A B C : List am_E} (x : am_sub A B) (y : am_sub B C) : am_sub A C := fun pc e h => y pc e (x pc e h)
def am_unS (S : List am_E) (cut : List Nat) (d m : Nat) (K : AK) : Nat → AC → Prop
  | 0, c => WP d m c K
  | n + 1, c => match am_in cut c.1 with
    | true => WP d m c K
    | false => am_stp WP (am_unS S cut d m K n) d (am_hd m) K (am_shr0 (am_cap m) c (am_row S c.1))
theorem am_sub_stp {S : List am_E} {m d : Nat} {hs : List (Nat × Nat × Nat × Nat)} {K : AK} {c : AC} {G : AC → Prop} (s : am_sub S (am_tab m)) (w : am_stp WP G d hs K (am_shr0 (am_cap m) c (am_row S c.1))) : am_stp WP G d hs K (am_shp m c) := by
  unfold am_shp
  cases h : am_row S c.1 with
  | none =>
    rw [h] at w
    exact absurd w id
  | some e =>
    rw [h] at w
    rw [s _ _ h]
    exact w
theorem am_unS_ok {S : List am_E} {cut : List Nat} {d m : Nat} {K : AK} (s : am_sub S (am_tab m)) : ∀ (n : Nat) {c : AC}, am_unS S cut d m K n c → WP d m c K
  | 0, _, w => w
  | n + 1, c, w => by
    unfold am_unS at w
    split at w
    · exact w
    · exact WP_step (am_stp_mono (X := WP) (fun _ _ _ _ _ hK z => WP_mono hK z) (fun c z => am_unS_ok s n z) (fun _ _ _ z => z) (am_sub_stp s w))
theorem am_runS {S : List am_E} {cut : List Nat} {d m : Nat} {K : AK} (s : am_sub S (am_tab m)) (n : Nat) {c : AC} (w : am_stp WP (am_unS S cut d m K n) d (am_hd m) K (am_shr0 (am_cap m) c (am_row S c.1))) : WP d m c K :=
  WP_step (am_stp_mono (X := WP) (fun _ _ _ _ _ hK z => WP_mono hK z) (fun _ z => am_unS_ok s n z) (fun _ _ _ z => z) (am_sub_stp s w))
def lwU14 : List am_E := am_t245_14
def lwU13 : List am_E := am_t245_13 ++ lwU14
def lwU12 : List am_E := am_t245_12 ++ lwU13
def lwU11 : List am_E := am_t245_11 ++ lwU12
def lwU10 : List am_E := am_t245_10 ++ lwU11
def lwU9 : List am_E := am_t245_9 ++ lwU10
def lwU8 : List am_E := am_t245_8 ++ lwU9
def lwU7 : List am_E := am_t245_7 ++ lwU8
def lwU6 : List am_E := am_t245_6 ++ lwU7
def lwU5 : List am_E := am_t245_5 ++ lwU6
def lwU4 : List am_E := am_t245_4 ++ lwU5
def lwU3 : List am_E := am_t245_3 ++ lwU4
def lwU2 : List am_E := am_t245_2 ++ lwU3
def lwU1 : List am_E := am_t245_1 ++ lwU2
def lwU0 : List am_E := am_t245_0 ++ lwU1
theorem lw_tab : am_tab 245 = lwU0 := rfl
theorem lwS0 : am_sub lwU0 (am_tab 245) := fun pc e h => by
  rw [lw_tab]
  exact h
theorem lwS1 : am_sub lwU1 (am_tab 245) := (am_sub_app 192 (by decide +kernel) (by decide +kernel) : am_sub lwU1 lwU0).tr lwS0
theorem lwS2 : am_sub lwU2 (am_tab 245) := (am_sub_app 283 (by decide +kernel) (by decide +kernel) : am_sub lwU2 lwU1).tr lwS1
theorem lwS3 : am_sub lwU3 (am_tab 245) := (am_sub_app 382 (by decide +kernel) (by decide +kernel) : am_sub lwU3 lwU2).tr lwS2
theorem lwS4 : am_sub lwU4 (am_tab 245) := (am_sub_app 471 (by decide +kernel) (by decide +kernel) : am_sub lwU4 lwU3).tr lwS3
theorem lwS5 : am_sub lwU5 (am_tab 245) := (am_sub_app 568 (by decide +kernel) (by decide +kernel) : am_sub lwU5 lwU4).tr lwS4
theorem lwS6 : am_sub lwU6 (am_tab 245) := (am_sub_app 657 (by decide +kernel) (by decide +kernel) : am_sub lwU6 lwU5).tr lwS5
theorem lwS7 : am_sub lwU7 (am_tab 245) := (am_sub_app 749 (by decide +kernel) (by decide +kernel) : am_sub lwU7 lwU6).tr lwS6
theorem lwS8 : am_sub lwU8 (am_tab 245) := (am_sub_app 843 (by decide +kernel) (by decide +kernel) : am_sub lwU8 lwU7).tr lwS7
theorem lwS9 : am_sub lwU9 (am_tab 245) := (am_sub_app 935 (by decide +kernel) (by decide +kernel) : am_sub lwU9 lwU8).tr lwS8
theorem lwS10 : am_sub lwU10 (am_tab 245) := (am_sub_app 1033 (by decide +kernel) (by decide +kernel) : am_sub lwU10 lwU9).tr lwS9
theorem lwS11 : am_sub lwU11 (am_tab 245) := (am_sub_app 1130 (by decide +kernel) (by decide +kernel) : am_sub lwU11 lwU10).tr lwS10
theorem lwS12 : am_sub lwU12 (am_tab 245) := (am_sub_app 1221 (by decide +kernel) (by decide +kernel) : am_sub lwU12 lwU11).tr lwS11
theorem lwS13 : am_sub lwU13 (am_tab 245) := (am_sub_app 1312 (by decide +kernel) (by decide +kernel) : am_sub lwU13 lwU12).tr lwS12
theorem lwS14 : am_sub lwU14 (am_tab 245) := (am_sub_app 1413 (by decide +kernel) (by decide +kernel) : am_sub lwU14 lwU13).tr lwS13
theorem v245 {d : Nat} {z : Int} {h : AH} {K : AK} (b : (1 ≤ 601024 ∧ 10 ≤ 7293034) ∧ (0 ≤ am_n h ∧ 53 ≤ 601024 ∧ 7249 ≤ 7293034) ∧ am_call d 101 [(2, am_n h)] (am_a h 6 10 (am_df 6)) (fun x1 _ h3 => am_okx x1 ((0 ≤ am_n h) ∧ WP (d + 1) 245 (8, [(4, z), (2, am_n h), (9, 0), (9, 0), (9, 0), (9, 0), (9, 0), (9, 0), (9, 0)], [], h3, 53, 7249) K))) : am_call (d + 1) 245 [(4, z)] h K := am_runS lwS0 (S := lwU0) (cut := [8, 16, 23, 148, 252, 308, 321, 334, 390, 458, 526, 582, 650, 725, 793, 806, 909, 977, 1033, 1089, 1145, 1201, 1269, 1337, 1393, 1434, 1448]) 6 b
theorem v245_8 {d : Nat} {z x : Int} {y2 y3 y4 y5 y6 y7 y8 : AV} {nc ns : Nat} {h : AH} {K : AK} (b : (nc + 1 ≤ 601024 ∧ ns + 16 ≤ 7293034) ∧ (0 ≤ am_n h ∧ nc + 1 + 33 ≤ 601024 ∧ ns + 16 + 6281 ≤ 7293034) ∧ am_call d 151 [(2, am_n h)] (am_a h 9 16 (am_df 9)) (fun x1 _ h3 => am_okx x1 ((0 ≤ am_n h) ∧ WP (d + 1) 245 (16, [(4, z), (2, x), (2, am_n h), y3, y4, y5, y6, y7, y8], [], h3, nc + 1 + 33, ns + 16 + 6281) K))) : WP (d + 1) 245 (8, [(4, z), (2, x), y2, y3, y4, y5, y6, y7, y8], [], h, nc, ns) K := am_runS lwS0 (S := lwU0) (cut := [8, 16, 23, 148, 252, 308, 321, 334, 390, 458, 526, 582, 650, 725, 793, 806, 909, 977, 1033, 1089, 1145, 1201, 1269, 1337, 1393, 1434, 1448]) 6 b
theorem v245_16 {d : Nat} {z x m : Int} {y3 y4 y5 y6 y7 y8 : AV} {nc ns : Nat} {h : AH} {K : AK} (b : ((0 ≤ (1 : Int) ∧ (1 : Int) ≤ 4096) ∧ nc + 1 ≤ 601024 ∧ ns + (1 : Int).toNat ≤ 7293034) ∧ (0 ≤ am_n h) ∧ WP (d + 1) 245 (23, [(4, z), (2, x), (2, m), (2, am_n h), (0, 0), y5, y6, y7, y8], [], (am_a h 22 1 (fun _ => 0)), nc + 1, ns + (1 : Int).toNat) K) : WP (d + 1) 245 (16, [(4, z), (2, x), (2, m), y3, y4, y5, y6, y7, y8], [], h, nc, ns) K := am_runS lwS0 (S := lwU0) (cut := [8, 16, 23, 148, 252, 308, 321, 334, 390, 458, 526, 582, 650, 725, 793, 806, 909, 977, 1033, 1089, 1145, 1201, 1269, 1337, 1393, 1434, 1448]) 7 b
set_option maxRecDepth 8000 in
theorem v245_23 {d : Nat} {z x m o i : Int} {y5 y6 y7 y8 : AV} {nc ns : Nat} {h : AH} {K : AK} (b : ((w32 ((am_sl h) - 6) < i) → ((1 : Int) = 0 ∨ (1 : Int) = 1) ∧ K 0 1 h) ∧ (¬ (w32 ((am_sl h) - 6) < i) → (0 ≤ i ∧ i < am_sl h) ∧ (am_and (am_sx h i) 31 = 0 → WP (d + 1) 245 (148, [(4, z), (2, x), (2, m), (2, o), (0, i), y5, y6, y7, y8], [], h, nc, ns) K) ∧ (¬ am_and (am_sx h i) 31 = 0 → (am_and (am_sx h i) 31 = 1 → WP (d + 1) 245 (252, [(4, z), (2, x), (2, m), (2, o), (0, i), y5, y6, y7, y8], [], h, nc, ns) K) ∧ (¬ am_and (am_sx h i) 31 = 1 → (am_and (am_sx h i) 31 = 2 → WP (d + 1) 245 (308, [(4, z), (2, x), (2, m), (2, o), (0, i), y5, y6, y7, y8], [], h, nc, ns) K) ∧ (¬ am_and (am_sx h i) 31 = 2 → (am_and (am_sx h i) 31 = 3 → WP (d + 1) 245 (321, [(4, z), (2, x), (2, m), (2, o), (0, i), y5, y6, y7, y8], [], h, nc, ns) K) ∧ (¬ am_and (am_sx h i) 31 = 3 → (am_and (am_sx h i) 31 = 4 → WP (d + 1) 245 (334, [(4, z), (2, x), (2, m), (2, o), (0, i), y5, y6, y7, y8], [], h, nc, ns) K) ∧ (¬ am_and (am_sx h i) 31 = 4 → (am_and (am_sx h i) 31 = 5 → WP (d + 1) 245 (390, [(4, z), (2, x), (2, m), (2, o), (0, i), y5, y6, y7, y8], [], h, nc, ns) K) ∧ (¬ am_and (am_sx h i) 31 = 5 → (am_and (am_sx h i) 31 = 6 → WP (d + 1) 245 (458, [(4, z), (2, x), (2, m), (2, o), (0, i), y5, y6, y7, y8], [], h, nc, ns) K) ∧ (¬ am_and (am_sx h i) 31 = 6 → (am_and (am_sx h i) 31 = 7 → WP (d + 1) 245 (526, [(4, z), (2, x), (2, m), (2, o), (0, i), y5, y6, y7, y8], [], h, nc, ns) K) ∧ (¬ am_and (am_sx h i) 31 = 7 → (am_and (am_sx h i) 31 = 8 → WP (d + 1) 245 (582, [(4, z), (2, x), (2, m), (2, o), (0, i), y5, y6, y7, y8], [], h, nc, ns) K) ∧ (¬ am_and (am_sx h i) 31 = 8 → (am_and (am_sx h i) 31 = 9 → WP (d + 1) 245 (650, [(4, z), (2, x), (2, m), (2, o), (0, i), y5, y6, y7, y8], [], h, nc, ns) K) ∧ (¬ am_and (am_sx h i) 31 = 9 → (am_and (am_sx h i) 31 = 10 → WP (d + 1) 245 (725, [(4, z), (2, x), (2, m), (2, o), (0, i), y5, y6, y7, y8], [], h, nc, ns) K) ∧ (¬ am_and (am_sx h i) 31 = 10 → (am_and (am_sx h i) 31 = 11 → WP (d + 1) 245 (793, [(4, z), (2, x), (2, m), (2, o), (0, i), y5, y6, y7, y8], [], h, nc, ns) K) ∧ (¬ am_and (am_sx h i) 31 = 11 → (am_and (am_sx h i) 31 = 12 → WP (d + 1) 245 (806, [(4, z), (2, x), (2, m), (2, o), (0, i), y5, y6, y7, y8], [], h, nc, ns) K) ∧ (¬ am_and (am_sx h i) 31 = 12 → (am_and (am_sx h i) 31 = 13 → WP (d + 1) 245 (909, [(4, z), (2, x), (2, m), (2, o), (0, i), y5, y6, y7, y8], [], h, nc, ns) K) ∧ (¬ am_and (am_sx h i) 31 = 13 → (am_and (am_sx h i) 31 = 14 → WP (d + 1) 245 (977, [(4, z), (2, x), (2, m), (2, o), (0, i), y5, y6, y7, y8], [], h, nc, ns) K) ∧ (¬ am_and (am_sx h i) 31 = 14 → (am_and (am_sx h i) 31 = 15 → WP (d + 1) 245 (1033, [(4, z), (2, x), (2, m), (2, o), (0, i), y5, y6, y7, y8], [], h, nc, ns) K) ∧ (¬ am_and (am_sx h i) 31 = 15 → (am_and (am_sx h i) 31 = 16 → WP (d + 1) 245 (1089, [(4, z), (2, x), (2, m), (2, o), (0, i), y5, y6, y7, y8], [], h, nc, ns) K) ∧ (¬ am_and (am_sx h i) 31 = 16 → (am_and (am_sx h i) 31 = 17 → WP (d + 1) 245 (1145, [(4, z), (2, x), (2, m), (2, o), (0, i), y5, y6, y7, y8], [], h, nc, ns) K) ∧ (¬ am_and (am_sx h i) 31 = 17 → (am_and (am_sx h i) 31 = 18 → WP (d + 1) 245 (1201, [(4, z), (2, x), (2, m), (2, o), (0, i), y5, y6, y7, y8], [], h, nc, ns) K) ∧ (¬ am_and (am_sx h i) 31 = 18 → (am_and (am_sx h i) 31 = 19 → WP (d + 1) 245 (1269, [(4, z), (2, x), (2, m), (2, o), (0, i), y5, y6, y7, y8], [], h, nc, ns) K) ∧ (¬ am_and (am_sx h i) 31 = 19 → (am_and (am_sx h i) 31 = 20 → WP (d + 1) 245 (1337, [(4, z), (2, x), (2, m), (2, o), (0, i), y5, y6, y7, y8], [], h, nc, ns) K) ∧ (¬ am_and (am_sx h i) 31 = 20 → (am_and (am_sx h i) 31 = 21 → WP (d + 1) 245 (1393, [(4, z), (2, x), (2, m), (2, o), (0, i), y5, y6, y7, y8], [], h, nc, ns) K) ∧ (¬ am_and (am_sx h i) 31 = 21 → (am_and (am_sx h i) 31 = 22 → WP (d + 1) 245 (1434, [(4, z), (2, x), (2, m), (2, o), (0, i), y5, y6, y7, y8], [], h, nc, ns) K) ∧ (¬ am_and (am_sx h i) 31 = 22 → WP (d + 1) 245 (1448, [(4, z), (2, x), (2, m), (2, o), (0, i), y5, y6, y7, y8], [], h, nc, ns) K))))))))))))))))))))))))) : WP (d + 1) 245 (23, [(4, z), (2, x), (2, m), (2, o), (0, i), y5, y6, y7, y8], [], h, nc, ns) K := am_runS lwS0 (S := lwU0) (cut := [8, 16, 23, 148, 252, 308, 321, 334, 390, 458, 526, 582, 650, 725, 793, 806, 909, 977, 1033, 1089, 1145, 1201, 1269, 1337, 1393, 1434, 1448]) 14 b
