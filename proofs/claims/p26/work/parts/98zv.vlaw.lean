/-! ===== what is to be shown of the law ===== -/
/-- rows of a table's later pieces -/
def am_sub (S T : List am_E) : Prop := ∀ pc e, am_row S pc = some e → am_row T pc = some e
theorem am_row_pc : ∀ {S : List am_E} {pc : Nat} {e : am_E}, am_row S pc = some e → e.1 = pc ∧ e ∈ S
  | [], _, _, h => by cases h
  | a :: r, pc, e, h => by
    unfold am_row at h
    split at h
    · rename_i z
      cases h
      exact ⟨Nat.eq_of_beq_eq_true z, List.mem_cons_self ..⟩
    · have := am_row_pc h
      exact ⟨this.1, List.mem_cons_of_mem _ this.2⟩
theorem am_row_app1 : ∀ {A B : List am_E} {pc : Nat} {e : am_E}, am_row B pc = some e → (∀ a ∈ A, a.1 ≠ pc) → am_row (A ++ B) pc = some e
  | [], _, _, _, h, _ => h
  | a :: r, B, pc, e, h, n => by
    show am_row (a :: (r ++ B)) pc = some e
    unfold am_row
    split
    · rename_i z
      exact absurd (Nat.eq_of_beq_eq_true z) (n a (List.mem_cons_self ..))
    · exact am_row_app1 h (fun b hb => n b (List.mem_cons_of_mem _ hb))
theorem am_sub_app {A B : List am_E} (lo : Nat) (hA : A.all (fun a => Nat.blt a.1 lo) = true) (hB : B.all (fun a => Nat.ble lo a.1) = true) : am_sub B (A ++ B) := fun pc e h => am_row_app1 h (fun a ha => by
  have x := List.all_eq_true.1 hA a ha
  have y := am_row_pc h
  have z := List.all_eq_true.1 hB e y.2
  have x' := Nat.le_of_ble_eq_true x
  have z' := Nat.le_of_ble_eq_true z
  omega)
theorem am_sub.tr {A B C : List am_E} (x : am_sub A B) (y : am_sub B C) : am_sub A C := fun pc e h => y pc e (x pc e h)
def am_unS (S : List am_E) (cut : List Nat) (d m : Nat) (K : AK) : Nat → AC → Prop
  | 0, c => WP d m c K
  | n + 1, c => match am_in cut c.1 with
    | true => WP d m c K
    | false => am_stp WP (am_unS S cut d m K n) d (am_hd m) K (am_shr0 (am_cap m) c (am_row S c.1))
theorem am_sub_stp {S : List am_E} {m d : Nat} {hs : List (Nat × Nat × Nat × Nat)} {K : AK} {c : AC} {G : AC → Prop} (s : am_sub S (am_tab m)) (w : am_stp WP G d hs K (am_shr0 (am_cap m) c (am_row S c.1))) : am_stp WP G d hs K (am_shp m c) := by
  unfold am_shp
  cases h : am_row S c.1 with
  | none =>
    rw [h] at w
    exact absurd w id
  | some e =>
    rw [h] at w
    rw [s _ _ h]
    exact w
theorem am_unS_ok {S : List am_E} {cut : List Nat} {d m : Nat} {K : AK} (s : am_sub S (am_tab m)) : ∀ (n : Nat) {c : AC}, am_unS S cut d m K n c → WP d m c K
  | 0, _, w => w
  | n + 1, c, w => by
    unfold am_unS at w
    split at w
    · exact w
    · exact WP_step (am_stp_mono (X := WP) (fun _ _ _ _ _ hK z => WP_mono hK z) (fun c z => am_unS_ok s n z) (fun _ _ _ z => z) (am_sub_stp s w))
theorem am_runS {S : List am_E} {cut : List Nat} {d m : Nat} {K : AK} (s : am_sub S (am_tab m)) (n : Nat) {c : AC} (w : am_stp WP (am_unS S cut d m K n) d (am_hd m) K (am_shr0 (am_cap m) c (am_row S c.1))) : WP d m c K :=
  WP_step (am_stp_mono (X := WP) (fun _ _ _ _ _ hK z => WP_mono hK z) (fun _ z => am_unS_ok s n z) (fun _ _ _ z => z) (am_sub_stp s w))
def lwU15 : List am_E := am_t179_15
def lwU14 : List am_E := am_t179_14 ++ lwU15
def lwU13 : List am_E := am_t179_13 ++ lwU14
def lwU12 : List am_E := am_t179_12 ++ lwU13
def lwU11 : List am_E := am_t179_11 ++ lwU12
def lwU10 : List am_E := am_t179_10 ++ lwU11
def lwU9 : List am_E := am_t179_9 ++ lwU10
def lwU8 : List am_E := am_t179_8 ++ lwU9
def lwU7 : List am_E := am_t179_7 ++ lwU8
def lwU6 : List am_E := am_t179_6 ++ lwU7
def lwU5 : List am_E := am_t179_5 ++ lwU6
def lwU4 : List am_E := am_t179_4 ++ lwU5
def lwU3 : List am_E := am_t179_3 ++ lwU4
def lwU2 : List am_E := am_t179_2 ++ lwU3
def lwU1 : List am_E := am_t179_1 ++ lwU2
def lwU0 : List am_E := am_t179_0 ++ lwU1
theorem lw_tab : am_tab 179 = lwU0 := rfl
theorem lwS0 : am_sub lwU0 (am_tab 179) := fun pc e h => by
  rw [lw_tab]
  exact h
theorem lwS1 : am_sub lwU1 (am_tab 179) := (am_sub_app 105 (by decide +kernel) (by decide +kernel) : am_sub lwU1 lwU0).tr lwS0
theorem lwS2 : am_sub lwU2 (am_tab 179) := (am_sub_app 218 (by decide +kernel) (by decide +kernel) : am_sub lwU2 lwU1).tr lwS1
theorem lwS3 : am_sub lwU3 (am_tab 179) := (am_sub_app 331 (by decide +kernel) (by decide +kernel) : am_sub lwU3 lwU2).tr lwS2
theorem lwS4 : am_sub lwU4 (am_tab 179) := (am_sub_app 442 (by decide +kernel) (by decide +kernel) : am_sub lwU4 lwU3).tr lwS3
theorem lwS5 : am_sub lwU5 (am_tab 179) := (am_sub_app 558 (by decide +kernel) (by decide +kernel) : am_sub lwU5 lwU4).tr lwS4
theorem lwS6 : am_sub lwU6 (am_tab 179) := (am_sub_app 667 (by decide +kernel) (by decide +kernel) : am_sub lwU6 lwU5).tr lwS5
theorem lwS7 : am_sub lwU7 (am_tab 179) := (am_sub_app 785 (by decide +kernel) (by decide +kernel) : am_sub lwU7 lwU6).tr lwS6
theorem lwS8 : am_sub lwU8 (am_tab 179) := (am_sub_app 899 (by decide +kernel) (by decide +kernel) : am_sub lwU8 lwU7).tr lwS7
theorem lwS9 : am_sub lwU9 (am_tab 179) := (am_sub_app 1009 (by decide +kernel) (by decide +kernel) : am_sub lwU9 lwU8).tr lwS8
theorem lwS10 : am_sub lwU10 (am_tab 179) := (am_sub_app 1122 (by decide +kernel) (by decide +kernel) : am_sub lwU10 lwU9).tr lwS9
theorem lwS11 : am_sub lwU11 (am_tab 179) := (am_sub_app 1226 (by decide +kernel) (by decide +kernel) : am_sub lwU11 lwU10).tr lwS10
theorem lwS12 : am_sub lwU12 (am_tab 179) := (am_sub_app 1332 (by decide +kernel) (by decide +kernel) : am_sub lwU12 lwU11).tr lwS11
theorem lwS13 : am_sub lwU13 (am_tab 179) := (am_sub_app 1446 (by decide +kernel) (by decide +kernel) : am_sub lwU13 lwU12).tr lwS12
theorem lwS14 : am_sub lwU14 (am_tab 179) := (am_sub_app 1556 (by decide +kernel) (by decide +kernel) : am_sub lwU14 lwU13).tr lwS13
theorem lwS15 : am_sub lwU15 (am_tab 179) := (am_sub_app 1669 (by decide +kernel) (by decide +kernel) : am_sub lwU15 lwU14).tr lwS14
