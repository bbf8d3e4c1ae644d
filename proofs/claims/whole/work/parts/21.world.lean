/-! ===== the world at the start ===== -/
def am_fl9 : List Cond := flatC (Jvm.Cond.and given_1 narrow_1)
theorem am_f9 {args : Array Value} {s : State} {c : Cond} (h : (Jvm.Cond.and given_1 narrow_1).before args s = true) (i : Nat) (hi : am_fl9[i]? = some c) : c.before args s = true := flat_of_before _ h c (List.mem_of_getElem? hi)
theorem am_OFof {args : Array Value} {s : State} {tm : Term} {nm c n d : String} {k : Nat} {v : Value} {A : Nat → Prop} (hex : (Cond.exactly tm nm).before args s = true) (ht : tm.eval args s none [] s = some (.ref k)) (hv : (Term.field tm c n d).eval args s none [] s = some v) (hA : ∀ a : Nat, a < s.heap.size → ¬ A a) : va_OF c n d v k A s s.heap := by
  obtain ⟨a2, c2, cell, k2, q1, q2, q3, q4, q5, q6, q7⟩ := Cond.exactly_spec (args := args) (first := s) (o := none) (s := s) (idx := []) (t := tm) (cls := nm) hex
  cases ht.symm.trans q1
  cases hfo : s.fieldFound? c n d with
  | none =>
    rw [va_fe ht] at hv
    simp [State.fieldOf?, State.fieldNamed?, hfo] at hv
  | some x =>
    obtain ⟨cf, k3, fi, f⟩ := x
    obtain ⟨g1, cell3, g2, g3, -, -, g6⟩ := Term.field_spec hfo ht hv
    exact ⟨cf, k3, fi, f, cell3, hfo, g1, g2, g3, g6, hA _ (Array.getElem?_eq_some_iff.mp g2).1⟩
/-- a text: its object, its bytes -/
theorem am_txt {args : Array Value} {s : State} {cls : String} {idx N : Nat} {f : Nat → Int32} {A : Nat → Prop} (hN : N < 2 ^ 31) (h1 : (Cond.exactly (.string cls idx) "java/lang/String").before args s = true) (h2 : (Cond.eq (.field (.string cls idx) "java/lang/String" "coder" "B") (.int 0)).before args s = true)
    (h3 : (Cond.arrayOf (.field (.string cls idx) "java/lang/String" "value" "[B") .byte).before args s = true) (h4 : (Cond.eq (.length (.field (.string cls idx) "java/lang/String" "value" "[B")) (.int (Int32.ofNat N))).before args s = true)
    (h5 : ∀ i : Nat, i < N → (Cond.eq (.elem (.field (.string cls idx) "java/lang/String" "value" "[B") (.int (Int32.ofNat i))) (.int (f i))).before args s = true) (hA : ∀ a : Nat, a < s.heap.size → ¬ A a) :
    ∃ k v : Nat, (Term.string cls idx).eval args s none [] s = some (.ref k) ∧ va_O "java/lang/String" k A s s.heap ∧ va_OF "java/lang/String" "coder" "B" (.int 0) k A s s.heap ∧ va_OF "java/lang/String" "value" "[B" (.ref v) k A s s.heap ∧ va_T .byte v N (fun i => .int (f i)) A s s.heap := by
  obtain ⟨k, c2, cell, k2, q1, -⟩ := Cond.exactly_spec (args := args) (first := s) (o := none) (s := s) (idx := []) (t := .string cls idx) (cls := "java/lang/String") h1
  obtain ⟨v, hv, hT⟩ := va_Tof (tm := .field (.string cls idx) "java/lang/String" "value" "[B") (ty := .byte) (N := N) (f := fun i => .int (f i)) hN h3 (va_eqv h4 rfl) (fun i hi => va_eqv (h5 i hi) rfl) hA
  exact ⟨k, v, q1, va_Oof h1 q1 hA, am_OFof h1 q1 (va_eqv h2 rfl) hA, am_OFof h1 q1 hv hA, hT⟩
theorem am_tx0 : ∀ i : Nat, i < 112 → am_fl9[73 + i]? = some (Cond.eq (.elem (.field (.string "BudgetJury$Tokens" 31) "java/lang/String" "value" "[B") (.int (Int32.ofNat i))) (.int (Int32.ofInt (am_tb (0 : Nat) (i : Int))))) := by decide +kernel
theorem am_tz0 {args : Array Value} {s : State} {A : Nat → Prop} (h : (Jvm.Cond.and given_1 narrow_1).before args s = true) (hA : ∀ a : Nat, a < s.heap.size → ¬ A a) : ∃ k v : Nat, (Term.string "BudgetJury$Tokens" 31).eval args s none [] s = some (.ref k) ∧ va_O "java/lang/String" k A s s.heap ∧ va_OF "java/lang/String" "coder" "B" (.int 0) k A s s.heap ∧ va_OF "java/lang/String" "value" "[B" (.ref v) k A s s.heap ∧ va_T .byte v 112 (fun i => .int (Int32.ofInt (am_tb (0 : Nat) (i : Int)))) A s s.heap :=
  am_txt (by decide) (am_f9 h 69 (by decide +kernel)) (am_f9 h 70 (by decide +kernel)) (am_f9 h 71 (by decide +kernel)) (am_f9 h 72 (by decide +kernel)) (fun i hi => am_f9 h _ (am_tx0 i hi)) hA
theorem am_tx1 : ∀ i : Nat, i < 13 → am_fl9[189 + i]? = some (Cond.eq (.elem (.field (.string "BudgetJury$Tokens" 91) "java/lang/String" "value" "[B") (.int (Int32.ofNat i))) (.int (Int32.ofInt (am_tb (1 : Nat) (i : Int))))) := by decide +kernel
theorem am_tz1 {args : Array Value} {s : State} {A : Nat → Prop} (h : (Jvm.Cond.and given_1 narrow_1).before args s = true) (hA : ∀ a : Nat, a < s.heap.size → ¬ A a) : ∃ k v : Nat, (Term.string "BudgetJury$Tokens" 91).eval args s none [] s = some (.ref k) ∧ va_O "java/lang/String" k A s s.heap ∧ va_OF "java/lang/String" "coder" "B" (.int 0) k A s s.heap ∧ va_OF "java/lang/String" "value" "[B" (.ref v) k A s s.heap ∧ va_T .byte v 13 (fun i => .int (Int32.ofInt (am_tb (1 : Nat) (i : Int)))) A s s.heap :=
  am_txt (by decide) (am_f9 h 185 (by decide +kernel)) (am_f9 h 186 (by decide +kernel)) (am_f9 h 187 (by decide +kernel)) (am_f9 h 188 (by decide +kernel)) (fun i hi => am_f9 h _ (am_tx1 i hi)) hA
theorem am_tx2 : ∀ i : Nat, i < 13 → am_fl9[578 + i]? = some (Cond.eq (.elem (.field (.string "BudgetJuryModel" 102) "java/lang/String" "value" "[B") (.int (Int32.ofNat i))) (.int (Int32.ofInt (am_tb (2 : Nat) (i : Int))))) := by decide +kernel
theorem am_tz2 {args : Array Value} {s : State} {A : Nat → Prop} (h : (Jvm.Cond.and given_1 narrow_1).before args s = true) (hA : ∀ a : Nat, a < s.heap.size → ¬ A a) : ∃ k v : Nat, (Term.string "BudgetJuryModel" 102).eval args s none [] s = some (.ref k) ∧ va_O "java/lang/String" k A s s.heap ∧ va_OF "java/lang/String" "coder" "B" (.int 0) k A s s.heap ∧ va_OF "java/lang/String" "value" "[B" (.ref v) k A s s.heap ∧ va_T .byte v 13 (fun i => .int (Int32.ofInt (am_tb (2 : Nat) (i : Int)))) A s s.heap :=
  am_txt (by decide) (am_f9 h 574 (by decide +kernel)) (am_f9 h 575 (by decide +kernel)) (am_f9 h 576 (by decide +kernel)) (am_f9 h 577 (by decide +kernel)) (fun i hi => am_f9 h _ (am_tx2 i hi)) hA
theorem am_tx3 : ∀ i : Nat, i < 4 → am_fl9[596 + i]? = some (Cond.eq (.elem (.field (.string "BudgetJuryModel" 370) "java/lang/String" "value" "[B") (.int (Int32.ofNat i))) (.int (Int32.ofInt (am_tb (3 : Nat) (i : Int))))) := by decide +kernel
theorem am_tz3 {args : Array Value} {s : State} {A : Nat → Prop} (h : (Jvm.Cond.and given_1 narrow_1).before args s = true) (hA : ∀ a : Nat, a < s.heap.size → ¬ A a) : ∃ k v : Nat, (Term.string "BudgetJuryModel" 370).eval args s none [] s = some (.ref k) ∧ va_O "java/lang/String" k A s s.heap ∧ va_OF "java/lang/String" "coder" "B" (.int 0) k A s s.heap ∧ va_OF "java/lang/String" "value" "[B" (.ref v) k A s s.heap ∧ va_T .byte v 4 (fun i => .int (Int32.ofInt (am_tb (3 : Nat) (i : Int)))) A s s.heap :=
  am_txt (by decide) (am_f9 h 592 (by decide +kernel)) (am_f9 h 593 (by decide +kernel)) (am_f9 h 594 (by decide +kernel)) (am_f9 h 595 (by decide +kernel)) (fun i hi => am_f9 h _ (am_tx3 i hi)) hA
theorem am_tx4 : ∀ i : Nat, i < 3 → am_fl9[604 + i]? = some (Cond.eq (.elem (.field (.string "BudgetJuryModel" 371) "java/lang/String" "value" "[B") (.int (Int32.ofNat i))) (.int (Int32.ofInt (am_tb (4 : Nat) (i : Int))))) := by decide +kernel
theorem am_tz4 {args : Array Value} {s : State} {A : Nat → Prop} (h : (Jvm.Cond.and given_1 narrow_1).before args s = true) (hA : ∀ a : Nat, a < s.heap.size → ¬ A a) : ∃ k v : Nat, (Term.string "BudgetJuryModel" 371).eval args s none [] s = some (.ref k) ∧ va_O "java/lang/String" k A s s.heap ∧ va_OF "java/lang/String" "coder" "B" (.int 0) k A s s.heap ∧ va_OF "java/lang/String" "value" "[B" (.ref v) k A s s.heap ∧ va_T .byte v 3 (fun i => .int (Int32.ofInt (am_tb (4 : Nat) (i : Int)))) A s s.heap :=
  am_txt (by decide) (am_f9 h 600 (by decide +kernel)) (am_f9 h 601 (by decide +kernel)) (am_f9 h 602 (by decide +kernel)) (am_f9 h 603 (by decide +kernel)) (fun i hi => am_f9 h _ (am_tx4 i hi)) hA
theorem am_tx5 : ∀ i : Nat, i < 7 → am_fl9[611 + i]? = some (Cond.eq (.elem (.field (.string "BudgetJuryModel" 372) "java/lang/String" "value" "[B") (.int (Int32.ofNat i))) (.int (Int32.ofInt (am_tb (5 : Nat) (i : Int))))) := by decide +kernel
theorem am_tz5 {args : Array Value} {s : State} {A : Nat → Prop} (h : (Jvm.Cond.and given_1 narrow_1).before args s = true) (hA : ∀ a : Nat, a < s.heap.size → ¬ A a) : ∃ k v : Nat, (Term.string "BudgetJuryModel" 372).eval args s none [] s = some (.ref k) ∧ va_O "java/lang/String" k A s s.heap ∧ va_OF "java/lang/String" "coder" "B" (.int 0) k A s s.heap ∧ va_OF "java/lang/String" "value" "[B" (.ref v) k A s s.heap ∧ va_T .byte v 7 (fun i => .int (Int32.ofInt (am_tb (5 : Nat) (i : Int)))) A s s.heap :=
  am_txt (by decide) (am_f9 h 607 (by decide +kernel)) (am_f9 h 608 (by decide +kernel)) (am_f9 h 609 (by decide +kernel)) (am_f9 h 610 (by decide +kernel)) (fun i hi => am_f9 h _ (am_tx5 i hi)) hA
theorem am_tx6 : ∀ i : Nat, i < 4 → am_fl9[622 + i]? = some (Cond.eq (.elem (.field (.string "BudgetJuryModel" 374) "java/lang/String" "value" "[B") (.int (Int32.ofNat i))) (.int (Int32.ofInt (am_tb (6 : Nat) (i : Int))))) := by decide +kernel
theorem am_tz6 {args : Array Value} {s : State} {A : Nat → Prop} (h : (Jvm.Cond.and given_1 narrow_1).before args s = true) (hA : ∀ a : Nat, a < s.heap.size → ¬ A a) : ∃ k v : Nat, (Term.string "BudgetJuryModel" 374).eval args s none [] s = some (.ref k) ∧ va_O "java/lang/String" k A s s.heap ∧ va_OF "java/lang/String" "coder" "B" (.int 0) k A s s.heap ∧ va_OF "java/lang/String" "value" "[B" (.ref v) k A s s.heap ∧ va_T .byte v 4 (fun i => .int (Int32.ofInt (am_tb (6 : Nat) (i : Int)))) A s s.heap :=
  am_txt (by decide) (am_f9 h 618 (by decide +kernel)) (am_f9 h 619 (by decide +kernel)) (am_f9 h 620 (by decide +kernel)) (am_f9 h 621 (by decide +kernel)) (fun i hi => am_f9 h _ (am_tx6 i hi)) hA
theorem am_tx7 : ∀ i : Nat, i < 2 → am_fl9[630 + i]? = some (Cond.eq (.elem (.field (.string "BudgetJuryModel" 375) "java/lang/String" "value" "[B") (.int (Int32.ofNat i))) (.int (Int32.ofInt (am_tb (7 : Nat) (i : Int))))) := by decide +kernel
theorem am_tz7 {args : Array Value} {s : State} {A : Nat → Prop} (h : (Jvm.Cond.and given_1 narrow_1).before args s = true) (hA : ∀ a : Nat, a < s.heap.size → ¬ A a) : ∃ k v : Nat, (Term.string "BudgetJuryModel" 375).eval args s none [] s = some (.ref k) ∧ va_O "java/lang/String" k A s s.heap ∧ va_OF "java/lang/String" "coder" "B" (.int 0) k A s s.heap ∧ va_OF "java/lang/String" "value" "[B" (.ref v) k A s s.heap ∧ va_T .byte v 2 (fun i => .int (Int32.ofInt (am_tb (7 : Nat) (i : Int)))) A s s.heap :=
  am_txt (by decide) (am_f9 h 626 (by decide +kernel)) (am_f9 h 627 (by decide +kernel)) (am_f9 h 628 (by decide +kernel)) (am_f9 h 629 (by decide +kernel)) (fun i hi => am_f9 h _ (am_tx7 i hi)) hA
theorem am_tx8 : ∀ i : Nat, i < 5 → am_fl9[636 + i]? = some (Cond.eq (.elem (.field (.string "BudgetJuryModel" 377) "java/lang/String" "value" "[B") (.int (Int32.ofNat i))) (.int (Int32.ofInt (am_tb (8 : Nat) (i : Int))))) := by decide +kernel
theorem am_tz8 {args : Array Value} {s : State} {A : Nat → Prop} (h : (Jvm.Cond.and given_1 narrow_1).before args s = true) (hA : ∀ a : Nat, a < s.heap.size → ¬ A a) : ∃ k v : Nat, (Term.string "BudgetJuryModel" 377).eval args s none [] s = some (.ref k) ∧ va_O "java/lang/String" k A s s.heap ∧ va_OF "java/lang/String" "coder" "B" (.int 0) k A s s.heap ∧ va_OF "java/lang/String" "value" "[B" (.ref v) k A s s.heap ∧ va_T .byte v 5 (fun i => .int (Int32.ofInt (am_tb (8 : Nat) (i : Int)))) A s s.heap :=
  am_txt (by decide) (am_f9 h 632 (by decide +kernel)) (am_f9 h 633 (by decide +kernel)) (am_f9 h 634 (by decide +kernel)) (am_f9 h 635 (by decide +kernel)) (fun i hi => am_f9 h _ (am_tx8 i hi)) hA
theorem am_tx9 : ∀ i : Nat, i < 5 → am_fl9[645 + i]? = some (Cond.eq (.elem (.field (.string "BudgetJuryModel" 378) "java/lang/String" "value" "[B") (.int (Int32.ofNat i))) (.int (Int32.ofInt (am_tb (9 : Nat) (i : Int))))) := by decide +kernel
theorem am_tz9 {args : Array Value} {s : State} {A : Nat → Prop} (h : (Jvm.Cond.and given_1 narrow_1).before args s = true) (hA : ∀ a : Nat, a < s.heap.size → ¬ A a) : ∃ k v : Nat, (Term.string "BudgetJuryModel" 378).eval args s none [] s = some (.ref k) ∧ va_O "java/lang/String" k A s s.heap ∧ va_OF "java/lang/String" "coder" "B" (.int 0) k A s s.heap ∧ va_OF "java/lang/String" "value" "[B" (.ref v) k A s s.heap ∧ va_T .byte v 5 (fun i => .int (Int32.ofInt (am_tb (9 : Nat) (i : Int)))) A s s.heap :=
  am_txt (by decide) (am_f9 h 641 (by decide +kernel)) (am_f9 h 642 (by decide +kernel)) (am_f9 h 643 (by decide +kernel)) (am_f9 h 644 (by decide +kernel)) (fun i hi => am_f9 h _ (am_tx9 i hi)) hA
theorem am_tx10 : ∀ i : Nat, i < 5 → am_fl9[654 + i]? = some (Cond.eq (.elem (.field (.string "BudgetJuryModel" 380) "java/lang/String" "value" "[B") (.int (Int32.ofNat i))) (.int (Int32.ofInt (am_tb (10 : Nat) (i : Int))))) := by decide +kernel
theorem am_tz10 {args : Array Value} {s : State} {A : Nat → Prop} (h : (Jvm.Cond.and given_1 narrow_1).before args s = true) (hA : ∀ a : Nat, a < s.heap.size → ¬ A a) : ∃ k v : Nat, (Term.string "BudgetJuryModel" 380).eval args s none [] s = some (.ref k) ∧ va_O "java/lang/String" k A s s.heap ∧ va_OF "java/lang/String" "coder" "B" (.int 0) k A s s.heap ∧ va_OF "java/lang/String" "value" "[B" (.ref v) k A s s.heap ∧ va_T .byte v 5 (fun i => .int (Int32.ofInt (am_tb (10 : Nat) (i : Int)))) A s s.heap :=
  am_txt (by decide) (am_f9 h 650 (by decide +kernel)) (am_f9 h 651 (by decide +kernel)) (am_f9 h 652 (by decide +kernel)) (am_f9 h 653 (by decide +kernel)) (fun i hi => am_f9 h _ (am_tx10 i hi)) hA
theorem am_tx11 : ∀ i : Nat, i < 6 → am_fl9[663 + i]? = some (Cond.eq (.elem (.field (.string "BudgetJuryModel" 381) "java/lang/String" "value" "[B") (.int (Int32.ofNat i))) (.int (Int32.ofInt (am_tb (11 : Nat) (i : Int))))) := by decide +kernel
theorem am_tz11 {args : Array Value} {s : State} {A : Nat → Prop} (h : (Jvm.Cond.and given_1 narrow_1).before args s = true) (hA : ∀ a : Nat, a < s.heap.size → ¬ A a) : ∃ k v : Nat, (Term.string "BudgetJuryModel" 381).eval args s none [] s = some (.ref k) ∧ va_O "java/lang/String" k A s s.heap ∧ va_OF "java/lang/String" "coder" "B" (.int 0) k A s s.heap ∧ va_OF "java/lang/String" "value" "[B" (.ref v) k A s s.heap ∧ va_T .byte v 6 (fun i => .int (Int32.ofInt (am_tb (11 : Nat) (i : Int)))) A s s.heap :=
  am_txt (by decide) (am_f9 h 659 (by decide +kernel)) (am_f9 h 660 (by decide +kernel)) (am_f9 h 661 (by decide +kernel)) (am_f9 h 662 (by decide +kernel)) (fun i hi => am_f9 h _ (am_tx11 i hi)) hA
theorem am_tx12 : ∀ i : Nat, i < 3 → am_fl9[673 + i]? = some (Cond.eq (.elem (.field (.string "BudgetJuryModel" 382) "java/lang/String" "value" "[B") (.int (Int32.ofNat i))) (.int (Int32.ofInt (am_tb (12 : Nat) (i : Int))))) := by decide +kernel
theorem am_tz12 {args : Array Value} {s : State} {A : Nat → Prop} (h : (Jvm.Cond.and given_1 narrow_1).before args s = true) (hA : ∀ a : Nat, a < s.heap.size → ¬ A a) : ∃ k v : Nat, (Term.string "BudgetJuryModel" 382).eval args s none [] s = some (.ref k) ∧ va_O "java/lang/String" k A s s.heap ∧ va_OF "java/lang/String" "coder" "B" (.int 0) k A s s.heap ∧ va_OF "java/lang/String" "value" "[B" (.ref v) k A s s.heap ∧ va_T .byte v 3 (fun i => .int (Int32.ofInt (am_tb (12 : Nat) (i : Int)))) A s s.heap :=
  am_txt (by decide) (am_f9 h 669 (by decide +kernel)) (am_f9 h 670 (by decide +kernel)) (am_f9 h 671 (by decide +kernel)) (am_f9 h 672 (by decide +kernel)) (fun i hi => am_f9 h _ (am_tx12 i hi)) hA
theorem am_tx13 : ∀ i : Nat, i < 4 → am_fl9[680 + i]? = some (Cond.eq (.elem (.field (.string "BudgetJuryModel" 383) "java/lang/String" "value" "[B") (.int (Int32.ofNat i))) (.int (Int32.ofInt (am_tb (13 : Nat) (i : Int))))) := by decide +kernel
theorem am_tz13 {args : Array Value} {s : State} {A : Nat → Prop} (h : (Jvm.Cond.and given_1 narrow_1).before args s = true) (hA : ∀ a : Nat, a < s.heap.size → ¬ A a) : ∃ k v : Nat, (Term.string "BudgetJuryModel" 383).eval args s none [] s = some (.ref k) ∧ va_O "java/lang/String" k A s s.heap ∧ va_OF "java/lang/String" "coder" "B" (.int 0) k A s s.heap ∧ va_OF "java/lang/String" "value" "[B" (.ref v) k A s s.heap ∧ va_T .byte v 4 (fun i => .int (Int32.ofInt (am_tb (13 : Nat) (i : Int)))) A s s.heap :=
  am_txt (by decide) (am_f9 h 676 (by decide +kernel)) (am_f9 h 677 (by decide +kernel)) (am_f9 h 678 (by decide +kernel)) (am_f9 h 679 (by decide +kernel)) (fun i hi => am_f9 h _ (am_tx13 i hi)) hA
theorem am_tx14 : ∀ i : Nat, i < 4 → am_fl9[688 + i]? = some (Cond.eq (.elem (.field (.string "BudgetJuryModel" 385) "java/lang/String" "value" "[B") (.int (Int32.ofNat i))) (.int (Int32.ofInt (am_tb (14 : Nat) (i : Int))))) := by decide +kernel
theorem am_tz14 {args : Array Value} {s : State} {A : Nat → Prop} (h : (Jvm.Cond.and given_1 narrow_1).before args s = true) (hA : ∀ a : Nat, a < s.heap.size → ¬ A a) : ∃ k v : Nat, (Term.string "BudgetJuryModel" 385).eval args s none [] s = some (.ref k) ∧ va_O "java/lang/String" k A s s.heap ∧ va_OF "java/lang/String" "coder" "B" (.int 0) k A s s.heap ∧ va_OF "java/lang/String" "value" "[B" (.ref v) k A s s.heap ∧ va_T .byte v 4 (fun i => .int (Int32.ofInt (am_tb (14 : Nat) (i : Int)))) A s s.heap :=
  am_txt (by decide) (am_f9 h 684 (by decide +kernel)) (am_f9 h 685 (by decide +kernel)) (am_f9 h 686 (by decide +kernel)) (am_f9 h 687 (by decide +kernel)) (fun i hi => am_f9 h _ (am_tx14 i hi)) hA
theorem am_tx15 : ∀ i : Nat, i < 3 → am_fl9[696 + i]? = some (Cond.eq (.elem (.field (.string "BudgetJuryModel" 386) "java/lang/String" "value" "[B") (.int (Int32.ofNat i))) (.int (Int32.ofInt (am_tb (15 : Nat) (i : Int))))) := by decide +kernel
theorem am_tz15 {args : Array Value} {s : State} {A : Nat → Prop} (h : (Jvm.Cond.and given_1 narrow_1).before args s = true) (hA : ∀ a : Nat, a < s.heap.size → ¬ A a) : ∃ k v : Nat, (Term.string "BudgetJuryModel" 386).eval args s none [] s = some (.ref k) ∧ va_O "java/lang/String" k A s s.heap ∧ va_OF "java/lang/String" "coder" "B" (.int 0) k A s s.heap ∧ va_OF "java/lang/String" "value" "[B" (.ref v) k A s s.heap ∧ va_T .byte v 3 (fun i => .int (Int32.ofInt (am_tb (15 : Nat) (i : Int)))) A s s.heap :=
  am_txt (by decide) (am_f9 h 692 (by decide +kernel)) (am_f9 h 693 (by decide +kernel)) (am_f9 h 694 (by decide +kernel)) (am_f9 h 695 (by decide +kernel)) (fun i hi => am_f9 h _ (am_tx15 i hi)) hA
theorem am_tx16 : ∀ i : Nat, i < 5 → am_fl9[703 + i]? = some (Cond.eq (.elem (.field (.string "BudgetJuryModel" 388) "java/lang/String" "value" "[B") (.int (Int32.ofNat i))) (.int (Int32.ofInt (am_tb (16 : Nat) (i : Int))))) := by decide +kernel
theorem am_tz16 {args : Array Value} {s : State} {A : Nat → Prop} (h : (Jvm.Cond.and given_1 narrow_1).before args s = true) (hA : ∀ a : Nat, a < s.heap.size → ¬ A a) : ∃ k v : Nat, (Term.string "BudgetJuryModel" 388).eval args s none [] s = some (.ref k) ∧ va_O "java/lang/String" k A s s.heap ∧ va_OF "java/lang/String" "coder" "B" (.int 0) k A s s.heap ∧ va_OF "java/lang/String" "value" "[B" (.ref v) k A s s.heap ∧ va_T .byte v 5 (fun i => .int (Int32.ofInt (am_tb (16 : Nat) (i : Int)))) A s s.heap :=
  am_txt (by decide) (am_f9 h 699 (by decide +kernel)) (am_f9 h 700 (by decide +kernel)) (am_f9 h 701 (by decide +kernel)) (am_f9 h 702 (by decide +kernel)) (fun i hi => am_f9 h _ (am_tx16 i hi)) hA
theorem am_tx17 : ∀ i : Nat, i < 4 → am_fl9[712 + i]? = some (Cond.eq (.elem (.field (.string "BudgetJuryModel" 389) "java/lang/String" "value" "[B") (.int (Int32.ofNat i))) (.int (Int32.ofInt (am_tb (17 : Nat) (i : Int))))) := by decide +kernel
theorem am_tz17 {args : Array Value} {s : State} {A : Nat → Prop} (h : (Jvm.Cond.and given_1 narrow_1).before args s = true) (hA : ∀ a : Nat, a < s.heap.size → ¬ A a) : ∃ k v : Nat, (Term.string "BudgetJuryModel" 389).eval args s none [] s = some (.ref k) ∧ va_O "java/lang/String" k A s s.heap ∧ va_OF "java/lang/String" "coder" "B" (.int 0) k A s s.heap ∧ va_OF "java/lang/String" "value" "[B" (.ref v) k A s s.heap ∧ va_T .byte v 4 (fun i => .int (Int32.ofInt (am_tb (17 : Nat) (i : Int)))) A s s.heap :=
  am_txt (by decide) (am_f9 h 708 (by decide +kernel)) (am_f9 h 709 (by decide +kernel)) (am_f9 h 710 (by decide +kernel)) (am_f9 h 711 (by decide +kernel)) (fun i hi => am_f9 h _ (am_tx17 i hi)) hA
theorem am_tx18 : ∀ i : Nat, i < 5 → am_fl9[720 + i]? = some (Cond.eq (.elem (.field (.string "BudgetJuryModel" 390) "java/lang/String" "value" "[B") (.int (Int32.ofNat i))) (.int (Int32.ofInt (am_tb (18 : Nat) (i : Int))))) := by decide +kernel
theorem am_tz18 {args : Array Value} {s : State} {A : Nat → Prop} (h : (Jvm.Cond.and given_1 narrow_1).before args s = true) (hA : ∀ a : Nat, a < s.heap.size → ¬ A a) : ∃ k v : Nat, (Term.string "BudgetJuryModel" 390).eval args s none [] s = some (.ref k) ∧ va_O "java/lang/String" k A s s.heap ∧ va_OF "java/lang/String" "coder" "B" (.int 0) k A s s.heap ∧ va_OF "java/lang/String" "value" "[B" (.ref v) k A s s.heap ∧ va_T .byte v 5 (fun i => .int (Int32.ofInt (am_tb (18 : Nat) (i : Int)))) A s s.heap :=
  am_txt (by decide) (am_f9 h 716 (by decide +kernel)) (am_f9 h 717 (by decide +kernel)) (am_f9 h 718 (by decide +kernel)) (am_f9 h 719 (by decide +kernel)) (fun i hi => am_f9 h _ (am_tx18 i hi)) hA
theorem am_tx19 : ∀ i : Nat, i < 7 → am_fl9[729 + i]? = some (Cond.eq (.elem (.field (.string "BudgetJuryModel" 391) "java/lang/String" "value" "[B") (.int (Int32.ofNat i))) (.int (Int32.ofInt (am_tb (19 : Nat) (i : Int))))) := by decide +kernel
theorem am_tz19 {args : Array Value} {s : State} {A : Nat → Prop} (h : (Jvm.Cond.and given_1 narrow_1).before args s = true) (hA : ∀ a : Nat, a < s.heap.size → ¬ A a) : ∃ k v : Nat, (Term.string "BudgetJuryModel" 391).eval args s none [] s = some (.ref k) ∧ va_O "java/lang/String" k A s s.heap ∧ va_OF "java/lang/String" "coder" "B" (.int 0) k A s s.heap ∧ va_OF "java/lang/String" "value" "[B" (.ref v) k A s s.heap ∧ va_T .byte v 7 (fun i => .int (Int32.ofInt (am_tb (19 : Nat) (i : Int)))) A s s.heap :=
  am_txt (by decide) (am_f9 h 725 (by decide +kernel)) (am_f9 h 726 (by decide +kernel)) (am_f9 h 727 (by decide +kernel)) (am_f9 h 728 (by decide +kernel)) (fun i hi => am_f9 h _ (am_tx19 i hi)) hA
theorem am_tx20 : ∀ i : Nat, i < 3 → am_fl9[740 + i]? = some (Cond.eq (.elem (.field (.string "BudgetJuryModel" 392) "java/lang/String" "value" "[B") (.int (Int32.ofNat i))) (.int (Int32.ofInt (am_tb (20 : Nat) (i : Int))))) := by decide +kernel
theorem am_tz20 {args : Array Value} {s : State} {A : Nat → Prop} (h : (Jvm.Cond.and given_1 narrow_1).before args s = true) (hA : ∀ a : Nat, a < s.heap.size → ¬ A a) : ∃ k v : Nat, (Term.string "BudgetJuryModel" 392).eval args s none [] s = some (.ref k) ∧ va_O "java/lang/String" k A s s.heap ∧ va_OF "java/lang/String" "coder" "B" (.int 0) k A s s.heap ∧ va_OF "java/lang/String" "value" "[B" (.ref v) k A s s.heap ∧ va_T .byte v 3 (fun i => .int (Int32.ofInt (am_tb (20 : Nat) (i : Int)))) A s s.heap :=
  am_txt (by decide) (am_f9 h 736 (by decide +kernel)) (am_f9 h 737 (by decide +kernel)) (am_f9 h 738 (by decide +kernel)) (am_f9 h 739 (by decide +kernel)) (fun i hi => am_f9 h _ (am_tx20 i hi)) hA
theorem am_tx21 : ∀ i : Nat, i < 3 → am_fl9[747 + i]? = some (Cond.eq (.elem (.field (.string "BudgetJuryModel" 394) "java/lang/String" "value" "[B") (.int (Int32.ofNat i))) (.int (Int32.ofInt (am_tb (21 : Nat) (i : Int))))) := by decide +kernel
theorem am_tz21 {args : Array Value} {s : State} {A : Nat → Prop} (h : (Jvm.Cond.and given_1 narrow_1).before args s = true) (hA : ∀ a : Nat, a < s.heap.size → ¬ A a) : ∃ k v : Nat, (Term.string "BudgetJuryModel" 394).eval args s none [] s = some (.ref k) ∧ va_O "java/lang/String" k A s s.heap ∧ va_OF "java/lang/String" "coder" "B" (.int 0) k A s s.heap ∧ va_OF "java/lang/String" "value" "[B" (.ref v) k A s s.heap ∧ va_T .byte v 3 (fun i => .int (Int32.ofInt (am_tb (21 : Nat) (i : Int)))) A s s.heap :=
  am_txt (by decide) (am_f9 h 743 (by decide +kernel)) (am_f9 h 744 (by decide +kernel)) (am_f9 h 745 (by decide +kernel)) (am_f9 h 746 (by decide +kernel)) (fun i hi => am_f9 h _ (am_tx21 i hi)) hA
theorem am_tx22 : ∀ i : Nat, i < 2 → am_fl9[754 + i]? = some (Cond.eq (.elem (.field (.string "BudgetJuryModel" 396) "java/lang/String" "value" "[B") (.int (Int32.ofNat i))) (.int (Int32.ofInt (am_tb (22 : Nat) (i : Int))))) := by decide +kernel
theorem am_tz22 {args : Array Value} {s : State} {A : Nat → Prop} (h : (Jvm.Cond.and given_1 narrow_1).before args s = true) (hA : ∀ a : Nat, a < s.heap.size → ¬ A a) : ∃ k v : Nat, (Term.string "BudgetJuryModel" 396).eval args s none [] s = some (.ref k) ∧ va_O "java/lang/String" k A s s.heap ∧ va_OF "java/lang/String" "coder" "B" (.int 0) k A s s.heap ∧ va_OF "java/lang/String" "value" "[B" (.ref v) k A s s.heap ∧ va_T .byte v 2 (fun i => .int (Int32.ofInt (am_tb (22 : Nat) (i : Int)))) A s s.heap :=
  am_txt (by decide) (am_f9 h 750 (by decide +kernel)) (am_f9 h 751 (by decide +kernel)) (am_f9 h 752 (by decide +kernel)) (am_f9 h 753 (by decide +kernel)) (fun i hi => am_f9 h _ (am_tx22 i hi)) hA
theorem am_tx23 : ∀ i : Nat, i < 3 → am_fl9[760 + i]? = some (Cond.eq (.elem (.field (.string "BudgetJuryModel" 398) "java/lang/String" "value" "[B") (.int (Int32.ofNat i))) (.int (Int32.ofInt (am_tb (23 : Nat) (i : Int))))) := by decide +kernel
theorem am_tz23 {args : Array Value} {s : State} {A : Nat → Prop} (h : (Jvm.Cond.and given_1 narrow_1).before args s = true) (hA : ∀ a : Nat, a < s.heap.size → ¬ A a) : ∃ k v : Nat, (Term.string "BudgetJuryModel" 398).eval args s none [] s = some (.ref k) ∧ va_O "java/lang/String" k A s s.heap ∧ va_OF "java/lang/String" "coder" "B" (.int 0) k A s s.heap ∧ va_OF "java/lang/String" "value" "[B" (.ref v) k A s s.heap ∧ va_T .byte v 3 (fun i => .int (Int32.ofInt (am_tb (23 : Nat) (i : Int)))) A s s.heap :=
  am_txt (by decide) (am_f9 h 756 (by decide +kernel)) (am_f9 h 757 (by decide +kernel)) (am_f9 h 758 (by decide +kernel)) (am_f9 h 759 (by decide +kernel)) (fun i hi => am_f9 h _ (am_tx23 i hi)) hA
theorem am_tx24 : ∀ i : Nat, i < 3 → am_fl9[767 + i]? = some (Cond.eq (.elem (.field (.string "BudgetJuryModel" 399) "java/lang/String" "value" "[B") (.int (Int32.ofNat i))) (.int (Int32.ofInt (am_tb (24 : Nat) (i : Int))))) := by decide +kernel
theorem am_tz24 {args : Array Value} {s : State} {A : Nat → Prop} (h : (Jvm.Cond.and given_1 narrow_1).before args s = true) (hA : ∀ a : Nat, a < s.heap.size → ¬ A a) : ∃ k v : Nat, (Term.string "BudgetJuryModel" 399).eval args s none [] s = some (.ref k) ∧ va_O "java/lang/String" k A s s.heap ∧ va_OF "java/lang/String" "coder" "B" (.int 0) k A s s.heap ∧ va_OF "java/lang/String" "value" "[B" (.ref v) k A s s.heap ∧ va_T .byte v 3 (fun i => .int (Int32.ofInt (am_tb (24 : Nat) (i : Int)))) A s s.heap :=
  am_txt (by decide) (am_f9 h 763 (by decide +kernel)) (am_f9 h 764 (by decide +kernel)) (am_f9 h 765 (by decide +kernel)) (am_f9 h 766 (by decide +kernel)) (fun i hi => am_f9 h _ (am_tx24 i hi)) hA
theorem am_sr0 : Cond.stringRef (am_own 0).1 (am_own 0).2.1 (am_own 0).2.2 ∈ lw_tbl := am_kin 1 126 rfl
theorem am_sr1 : Cond.stringRef (am_own 1).1 (am_own 1).2.1 (am_own 1).2.2 ∈ lw_tbl := am_kin 2 150 rfl
theorem am_sr2 : Cond.stringRef (am_own 2).1 (am_own 2).2.1 (am_own 2).2.2 ∈ lw_tbl := am_kin 6 72 rfl
theorem am_sr3 : Cond.stringRef (am_own 3).1 (am_own 3).2.1 (am_own 3).2.2 ∈ lw_tbl := am_kin 7 185 rfl
theorem am_sr4 : Cond.stringRef (am_own 4).1 (am_own 4).2.1 (am_own 4).2.2 ∈ lw_tbl := am_kin 7 186 rfl
theorem am_sr5 : Cond.stringRef (am_own 5).1 (am_own 5).2.1 (am_own 5).2.2 ∈ lw_tbl := am_kin 7 187 rfl
theorem am_sr6 : Cond.stringRef (am_own 6).1 (am_own 6).2.1 (am_own 6).2.2 ∈ lw_tbl := am_kin 7 188 rfl
theorem am_sr7 : Cond.stringRef (am_own 7).1 (am_own 7).2.1 (am_own 7).2.2 ∈ lw_tbl := am_kin 7 189 rfl
theorem am_sr8 : Cond.stringRef (am_own 8).1 (am_own 8).2.1 (am_own 8).2.2 ∈ lw_tbl := am_kin 7 190 rfl
theorem am_sr9 : Cond.stringRef (am_own 9).1 (am_own 9).2.1 (am_own 9).2.2 ∈ lw_tbl := am_kin 7 191 rfl
theorem am_sr10 : Cond.stringRef (am_own 10).1 (am_own 10).2.1 (am_own 10).2.2 ∈ lw_tbl := am_kin 7 192 rfl
theorem am_sr11 : Cond.stringRef (am_own 11).1 (am_own 11).2.1 (am_own 11).2.2 ∈ lw_tbl := am_kin 7 193 rfl
theorem am_sr12 : Cond.stringRef (am_own 12).1 (am_own 12).2.1 (am_own 12).2.2 ∈ lw_tbl := am_kin 7 194 rfl
theorem am_sr13 : Cond.stringRef (am_own 13).1 (am_own 13).2.1 (am_own 13).2.2 ∈ lw_tbl := am_kin 7 195 rfl
theorem am_sr14 : Cond.stringRef (am_own 14).1 (am_own 14).2.1 (am_own 14).2.2 ∈ lw_tbl := am_kin 7 196 rfl
theorem am_sr15 : Cond.stringRef (am_own 15).1 (am_own 15).2.1 (am_own 15).2.2 ∈ lw_tbl := am_kin 7 197 rfl
theorem am_sr16 : Cond.stringRef (am_own 16).1 (am_own 16).2.1 (am_own 16).2.2 ∈ lw_tbl := am_kin 7 198 rfl
theorem am_sr17 : Cond.stringRef (am_own 17).1 (am_own 17).2.1 (am_own 17).2.2 ∈ lw_tbl := am_kin 7 199 rfl
theorem am_sr18 : Cond.stringRef (am_own 18).1 (am_own 18).2.1 (am_own 18).2.2 ∈ lw_tbl := am_kin 7 200 rfl
theorem am_sr19 : Cond.stringRef (am_own 19).1 (am_own 19).2.1 (am_own 19).2.2 ∈ lw_tbl := am_kin 7 201 rfl
theorem am_sr20 : Cond.stringRef (am_own 20).1 (am_own 20).2.1 (am_own 20).2.2 ∈ lw_tbl := am_kin 7 202 rfl
theorem am_sr21 : Cond.stringRef (am_own 21).1 (am_own 21).2.1 (am_own 21).2.2 ∈ lw_tbl := am_kin 7 203 rfl
theorem am_sr22 : Cond.stringRef (am_own 22).1 (am_own 22).2.1 (am_own 22).2.2 ∈ lw_tbl := am_kin 7 204 rfl
theorem am_sr23 : Cond.stringRef (am_own 23).1 (am_own 23).2.1 (am_own 23).2.2 ∈ lw_tbl := am_kin 7 205 rfl
theorem am_sr24 : Cond.stringRef (am_own 24).1 (am_own 24).2.1 (am_own 24).2.2 ∈ lw_tbl := am_kin 7 206 rfl
theorem am_mr0 : Cond.stringRef "BudgetJury" 71 "the tape is full" ∈ lw_tbl := am_kin 4 56 rfl
theorem am_me0 : am_fl9[202]? = some (Cond.exactly (.string "BudgetJury" 71) "java/lang/String") := by decide +kernel
theorem am_mr1 : Cond.stringRef "BudgetJury" 82 "not 0 to the number of bytes of the tape" ∈ lw_tbl := am_kin 4 103 rfl
theorem am_me1 : am_fl9[222]? = some (Cond.exactly (.string "BudgetJury" 82) "java/lang/String") := by decide +kernel
theorem am_mr2 : Cond.stringRef "BudgetJury" 109 "what is not 0 to 11" ∈ lw_tbl := am_kin 4 127 rfl
theorem am_me2 : am_fl9[266]? = some (Cond.exactly (.string "BudgetJury" 109) "java/lang/String") := by decide +kernel
theorem am_mr3 : Cond.stringRef "BudgetJury" 140 "no such ward" ∈ lw_tbl := am_kin 4 145 rfl
theorem am_me3 : am_fl9[289]? = some (Cond.exactly (.string "BudgetJury" 140) "java/lang/String") := by decide +kernel
theorem am_mr4 : Cond.stringRef "BudgetJury" 142 "what is not 0 to 3" ∈ lw_tbl := am_kin 4 146 rfl
theorem am_me4 : am_fl9[305]? = some (Cond.exactly (.string "BudgetJury" 142) "java/lang/String") := by decide +kernel
theorem am_mr5 : Cond.stringRef "BudgetJury" 151 "no such project" ∈ lw_tbl := am_kin 4 155 rfl
theorem am_me5 : am_fl9[327]? = some (Cond.exactly (.string "BudgetJury" 151) "java/lang/String") := by decide +kernel
theorem am_mr6 : Cond.stringRef "BudgetJury" 153 "what is not 0 to 7" ∈ lw_tbl := am_kin 4 156 rfl
theorem am_me6 : am_fl9[346]? = some (Cond.exactly (.string "BudgetJury" 153) "java/lang/String") := by decide +kernel
theorem am_mr7 : Cond.stringRef "BudgetJury" 164 "no such voter" ∈ lw_tbl := am_kin 4 172 rfl
theorem am_me7 : am_fl9[368]? = some (Cond.exactly (.string "BudgetJury" 164) "java/lang/String") := by decide +kernel
theorem am_mr8 : Cond.stringRef "BudgetJury" 169 "no such voter or no such project" ∈ lw_tbl := am_kin 4 180 rfl
theorem am_me8 : am_fl9[385]? = some (Cond.exactly (.string "BudgetJury" 169) "java/lang/String") := by decide +kernel
theorem am_mr9 : Cond.stringRef "BudgetJury" 193 "coins are not 1 to 999" ∈ lw_tbl := am_kin 4 207 rfl
theorem am_me9 : am_fl9[421]? = some (Cond.exactly (.string "BudgetJury" 193) "java/lang/String") := by decide +kernel
theorem am_mr10 : Cond.stringRef "BudgetJury" 203 "the budget is not 0 to 9999" ∈ lw_tbl := am_kin 4 216 rfl
theorem am_me10 : am_fl9[447]? = some (Cond.exactly (.string "BudgetJury" 203) "java/lang/String") := by decide +kernel
theorem am_mr11 : Cond.stringRef "BudgetJury" 208 "the project is open" ∈ lw_tbl := am_kin 4 225 rfl
theorem am_me11 : am_fl9[478]? = some (Cond.exactly (.string "BudgetJury" 208) "java/lang/String") := by decide +kernel
theorem am_mr12 : Cond.stringRef "BudgetJury" 216 "years are not 1 to 60" ∈ lw_tbl := am_kin 4 237 rfl
theorem am_me12 : am_fl9[501]? = some (Cond.exactly (.string "BudgetJury" 216) "java/lang/String") := by decide +kernel
theorem am_mr13 : Cond.stringRef "BudgetJury" 224 "what is not 6 to 10" ∈ lw_tbl := am_kin 5 47 rfl
theorem am_me13 : am_fl9[526]? = some (Cond.exactly (.string "BudgetJury" 224) "java/lang/String") := by decide +kernel
theorem am_mr14 : Cond.stringRef "BudgetJury" 226 "years are not 1 to 20" ∈ lw_tbl := am_kin 5 55 rfl
theorem am_me14 : am_fl9[549]? = some (Cond.exactly (.string "BudgetJury" 226) "java/lang/String") := by decide +kernel
theorem am_we : ∀ i : Nat, i < 22 → am_fl9[14 + i]? = some (Cond.eq (.elem (.static "BudgetJuryModel" "WORDS" "[Ljava/lang/String;") (.int (Int32.ofNat i))) (.string (am_own (3 + i)).1 (am_own (3 + i)).2.1)) := by decide +kernel
section
variable {b L : Nat} {xs : Nat → Int32} {s : State}
theorem am_world (hts : ∀ w ∈ lw_tbl, w.before #[Value.ref b] s = true) (h : (Jvm.Cond.and given_1 narrow_1).before #[Value.ref b] s = true) (hX : va_X b L xs s s.heap) (hbl : b < s.heap.size) (hL : L ≤ 3072) : ∃ G : am_En, eB G = s.heap.size ∧ eb G = b ∧ eL G = L ∧ (∀ j, ex G j = xs j) ∧ am_WK G s s.heap := by
  have hA : ∀ a : Nat, a < s.heap.size → ¬ (fun q => s.heap.size ≤ q) a := fun a ha => Nat.not_le.mpr ha
  have hW : ∀ w ∈ am_W, w.before #[Value.ref b] s = true := fun w hw => hts w (List.mem_filter.mp hw).1
  have h0 : ∀ j : Nat, ∃ kv : Nat × Nat, j < 25 → (Term.string (am_own j).1 (am_own j).2.1).eval #[Value.ref b] s none [] s = some (.ref kv.1) ∧ va_O "java/lang/String" kv.1 (fun q => s.heap.size ≤ q) s s.heap ∧ va_OF "java/lang/String" "coder" "B" (.int 0) kv.1 (fun q => s.heap.size ≤ q) s s.heap ∧ va_OF "java/lang/String" "value" "[B" (.ref kv.2) kv.1 (fun q => s.heap.size ≤ q) s s.heap ∧ va_T .byte kv.2 (am_nth am_tx j []).length (fun i => .int (Int32.ofInt (am_tb (j : Int) (i : Int)))) (fun q => s.heap.size ≤ q) s s.heap := by
    intro j
    match j with
    | 0 =>
      obtain ⟨k, v, q⟩ := am_tz0 h hA
      exact ⟨(k, v), fun _ => q⟩
    | 1 =>
      obtain ⟨k, v, q⟩ := am_tz1 h hA
      exact ⟨(k, v), fun _ => q⟩
    | 2 =>
      obtain ⟨k, v, q⟩ := am_tz2 h hA
      exact ⟨(k, v), fun _ => q⟩
    | 3 =>
      obtain ⟨k, v, q⟩ := am_tz3 h hA
      exact ⟨(k, v), fun _ => q⟩
    | 4 =>
      obtain ⟨k, v, q⟩ := am_tz4 h hA
      exact ⟨(k, v), fun _ => q⟩
    | 5 =>
      obtain ⟨k, v, q⟩ := am_tz5 h hA
      exact ⟨(k, v), fun _ => q⟩
    | 6 =>
      obtain ⟨k, v, q⟩ := am_tz6 h hA
      exact ⟨(k, v), fun _ => q⟩
    | 7 =>
      obtain ⟨k, v, q⟩ := am_tz7 h hA
      exact ⟨(k, v), fun _ => q⟩
    | 8 =>
      obtain ⟨k, v, q⟩ := am_tz8 h hA
      exact ⟨(k, v), fun _ => q⟩
    | 9 =>
      obtain ⟨k, v, q⟩ := am_tz9 h hA
      exact ⟨(k, v), fun _ => q⟩
    | 10 =>
      obtain ⟨k, v, q⟩ := am_tz10 h hA
      exact ⟨(k, v), fun _ => q⟩
    | 11 =>
      obtain ⟨k, v, q⟩ := am_tz11 h hA
      exact ⟨(k, v), fun _ => q⟩
    | 12 =>
      obtain ⟨k, v, q⟩ := am_tz12 h hA
      exact ⟨(k, v), fun _ => q⟩
    | 13 =>
      obtain ⟨k, v, q⟩ := am_tz13 h hA
      exact ⟨(k, v), fun _ => q⟩
    | 14 =>
      obtain ⟨k, v, q⟩ := am_tz14 h hA
      exact ⟨(k, v), fun _ => q⟩
    | 15 =>
      obtain ⟨k, v, q⟩ := am_tz15 h hA
      exact ⟨(k, v), fun _ => q⟩
    | 16 =>
      obtain ⟨k, v, q⟩ := am_tz16 h hA
      exact ⟨(k, v), fun _ => q⟩
    | 17 =>
      obtain ⟨k, v, q⟩ := am_tz17 h hA
      exact ⟨(k, v), fun _ => q⟩
    | 18 =>
      obtain ⟨k, v, q⟩ := am_tz18 h hA
      exact ⟨(k, v), fun _ => q⟩
    | 19 =>
      obtain ⟨k, v, q⟩ := am_tz19 h hA
      exact ⟨(k, v), fun _ => q⟩
    | 20 =>
      obtain ⟨k, v, q⟩ := am_tz20 h hA
      exact ⟨(k, v), fun _ => q⟩
    | 21 =>
      obtain ⟨k, v, q⟩ := am_tz21 h hA
      exact ⟨(k, v), fun _ => q⟩
    | 22 =>
      obtain ⟨k, v, q⟩ := am_tz22 h hA
      exact ⟨(k, v), fun _ => q⟩
    | 23 =>
      obtain ⟨k, v, q⟩ := am_tz23 h hA
      exact ⟨(k, v), fun _ => q⟩
    | 24 =>
      obtain ⟨k, v, q⟩ := am_tz24 h hA
      exact ⟨(k, v), fun _ => q⟩
    | j + 25 => exact ⟨(0, 0), fun h => absurd h (by omega)⟩
  obtain ⟨kv, hkv⟩ := Classical.axiomOfChoice h0
  have h1 : ∀ c : Nat, ∃ d : ClassId × (Nat → Nat), ∀ q : vw_C, vwCl[c]? = some q → u_Kn s q.1 q.2.1 q.2.2 d.1 d.2 := by
    intro c
    match c with
    | 0 =>
      obtain ⟨cC, iS, hk⟩ := u_known (C := (am_q 1).1) (T := (am_q 1).2.1) (N := (am_q 1).2.2) hW am_uw1 (hW _ am_k341)
      exact ⟨(cC, iS), fun q hq => by cases hq; exact hk⟩
    | 1 =>
      obtain ⟨cC, iS, hk⟩ := u_known (C := (am_q 2).1) (T := (am_q 2).2.1) (N := (am_q 2).2.2) hW am_uw2 (hW _ am_k315)
      exact ⟨(cC, iS), fun q hq => by cases hq; exact hk⟩
    | 2 =>
      obtain ⟨cC, iS, hk⟩ := u_known (C := (am_q 3).1) (T := (am_q 3).2.1) (N := (am_q 3).2.2) hW am_uw3 (hW _ am_k370)
      exact ⟨(cC, iS), fun q hq => by cases hq; exact hk⟩
    | 3 =>
      obtain ⟨cC, iS, hk⟩ := u_known (C := (am_q 4).1) (T := (am_q 4).2.1) (N := (am_q 4).2.2) hW am_uw4 (hW _ am_k140)
      exact ⟨(cC, iS), fun q hq => by cases hq; exact hk⟩
    | 4 =>
      obtain ⟨cC, iS, hk⟩ := u_known (C := (am_q 5).1) (T := (am_q 5).2.1) (N := (am_q 5).2.2) hW am_uw5 (hW _ am_k228)
      exact ⟨(cC, iS), fun q hq => by cases hq; exact hk⟩
    | 5 =>
      obtain ⟨cC, iS, hk⟩ := u_known (C := (am_q 6).1) (T := (am_q 6).2.1) (N := (am_q 6).2.2) hW am_uw6 (hW _ am_k132)
      exact ⟨(cC, iS), fun q hq => by cases hq; exact hk⟩
    | 6 =>
      obtain ⟨cC, iS, hk⟩ := u_known (C := (am_q 7).1) (T := (am_q 7).2.1) (N := (am_q 7).2.2) hW am_uw7 (hW _ am_k1137)
      exact ⟨(cC, iS), fun q hq => by cases hq; exact hk⟩
    | 7 =>
      obtain ⟨cC, iS, hk⟩ := u_known (C := (am_q 8).1) (T := (am_q 8).2.1) (N := (am_q 8).2.2) hW am_uw8 (hW _ am_k1221)
      exact ⟨(cC, iS), fun q hq => by cases hq; exact hk⟩
    | 8 =>
      obtain ⟨cC, iS, hk⟩ := u_known (C := (am_q 9).1) (T := (am_q 9).2.1) (N := (am_q 9).2.2) hW am_uw9 (hW _ am_k1131)
      exact ⟨(cC, iS), fun q hq => by cases hq; exact hk⟩
    | c + 9 => exact ⟨(0, fun _ => 0), fun q hq => by simp [vwCl] at hq⟩
  obtain ⟨dd, hdd⟩ := Classical.axiomOfChoice h1
  obtain ⟨ci, ki, mi, ai1, ai2, ai3⟩ := Cond.arrayClass_spec (hW _ am_k226)
  obtain ⟨cy, ky, my, ay1, ay2, ay3⟩ := Cond.arrayClass_spec (hW _ am_k225)
  obtain ⟨cj, kj, mj, aj1, aj2, aj3⟩ := Cond.arrayClass_spec (hW _ am_k313)
  have hwl : (Cond.eq (.length (.static "BudgetJuryModel" "WORDS" "[Ljava/lang/String;")) (.int (Int32.ofNat 22))).before #[Value.ref b] s = true := am_f9 h 13 (by decide +kernel)
  obtain ⟨w, hw, hwT⟩ := va_Tof (tm := .static "BudgetJuryModel" "WORDS" "[Ljava/lang/String;") (ty := .object "java/lang/String") (N := 22) (f := fun j => .ref (kv (3 + j)).1) (A := fun q => s.heap.size ≤ q) (by decide) (am_f9 h 12 (by decide +kernel)) (va_eqv hwl rfl) (fun j hj => va_eqv (am_f9 h _ (am_we j hj)) (hkv (3 + j) (by omega)).1) hA
  refine ⟨((s.heap.size, b, w), (fun j => (kv j).1, fun j => (kv j).2), (fun c => (dd c).1, fun c => (dd c).2), (ci, cy, cj), (L, xs)), rfl, rfl, rfl, fun _ => rfl, ⟨⟨hdd, fun k q hq => ?_⟩, fun w hw hn => va_Nw.of (am_isN_ot hn) (hts w hw), fun j hj => ?_, fun q hq => ?_, fun x k a1 a2 a3 a4 a5 => ?_⟩, fun j hj => (hkv j hj).2, ⟨?_, hwT, ?_, ?_, ?_, ?_⟩, hX, hbl, Nat.le_refl _, hL⟩
  · match k, hq with
    | 0, hq => cases hq; exact ⟨fun n z => ⟨fun k h => (by cases h), ki, ai2, mi, ai3⟩, ai1⟩
    | 1, hq => cases hq; exact ⟨fun n z => ⟨fun k h => (by cases h), ky, ay2, my, ay3⟩, ay1⟩
    | 2, hq => cases hq; exact ⟨fun n z => ⟨fun k h => (by cases h), kj, aj2, mj, aj3⟩, aj1⟩
    | k + 3, hq => simp at hq
  · have he := (hkv j hj).1
    match j, hj, he with
    | 0, _, he => exact vk_R.of (hts _ am_sr0) he
    | 1, _, he => exact vk_R.of (hts _ am_sr1) he
    | 2, _, he => exact vk_R.of (hts _ am_sr2) he
    | 3, _, he => exact vk_R.of (hts _ am_sr3) he
    | 4, _, he => exact vk_R.of (hts _ am_sr4) he
    | 5, _, he => exact vk_R.of (hts _ am_sr5) he
    | 6, _, he => exact vk_R.of (hts _ am_sr6) he
    | 7, _, he => exact vk_R.of (hts _ am_sr7) he
    | 8, _, he => exact vk_R.of (hts _ am_sr8) he
    | 9, _, he => exact vk_R.of (hts _ am_sr9) he
    | 10, _, he => exact vk_R.of (hts _ am_sr10) he
    | 11, _, he => exact vk_R.of (hts _ am_sr11) he
    | 12, _, he => exact vk_R.of (hts _ am_sr12) he
    | 13, _, he => exact vk_R.of (hts _ am_sr13) he
    | 14, _, he => exact vk_R.of (hts _ am_sr14) he
    | 15, _, he => exact vk_R.of (hts _ am_sr15) he
    | 16, _, he => exact vk_R.of (hts _ am_sr16) he
    | 17, _, he => exact vk_R.of (hts _ am_sr17) he
    | 18, _, he => exact vk_R.of (hts _ am_sr18) he
    | 19, _, he => exact vk_R.of (hts _ am_sr19) he
    | 20, _, he => exact vk_R.of (hts _ am_sr20) he
    | 21, _, he => exact vk_R.of (hts _ am_sr21) he
    | 22, _, he => exact vk_R.of (hts _ am_sr22) he
    | 23, _, he => exact vk_R.of (hts _ am_sr23) he
    | 24, _, he => exact vk_R.of (hts _ am_sr24) he
    | j + 25, hj, _ => exact absurd hj (by omega)
  · simp only [am_msg, List.mem_cons, List.not_mem_nil, or_false] at hq
    rcases hq with rfl | rfl | rfl | rfl | rfl | rfl | rfl | rfl | rfl | rfl | rfl | rfl | rfl | rfl | rfl
    · obtain ⟨a, c2, cell, k2, q1, -⟩ := Cond.exactly_spec (args := #[Value.ref b]) (first := s) (o := none) (s := s) (idx := []) (am_f9 h _ am_me0)
      exact ⟨a, vk_R.of (hts _ am_mr0) q1⟩
    · obtain ⟨a, c2, cell, k2, q1, -⟩ := Cond.exactly_spec (args := #[Value.ref b]) (first := s) (o := none) (s := s) (idx := []) (am_f9 h _ am_me1)
      exact ⟨a, vk_R.of (hts _ am_mr1) q1⟩
    · obtain ⟨a, c2, cell, k2, q1, -⟩ := Cond.exactly_spec (args := #[Value.ref b]) (first := s) (o := none) (s := s) (idx := []) (am_f9 h _ am_me2)
      exact ⟨a, vk_R.of (hts _ am_mr2) q1⟩
    · obtain ⟨a, c2, cell, k2, q1, -⟩ := Cond.exactly_spec (args := #[Value.ref b]) (first := s) (o := none) (s := s) (idx := []) (am_f9 h _ am_me3)
      exact ⟨a, vk_R.of (hts _ am_mr3) q1⟩
    · obtain ⟨a, c2, cell, k2, q1, -⟩ := Cond.exactly_spec (args := #[Value.ref b]) (first := s) (o := none) (s := s) (idx := []) (am_f9 h _ am_me4)
      exact ⟨a, vk_R.of (hts _ am_mr4) q1⟩
    · obtain ⟨a, c2, cell, k2, q1, -⟩ := Cond.exactly_spec (args := #[Value.ref b]) (first := s) (o := none) (s := s) (idx := []) (am_f9 h _ am_me5)
      exact ⟨a, vk_R.of (hts _ am_mr5) q1⟩
    · obtain ⟨a, c2, cell, k2, q1, -⟩ := Cond.exactly_spec (args := #[Value.ref b]) (first := s) (o := none) (s := s) (idx := []) (am_f9 h _ am_me6)
      exact ⟨a, vk_R.of (hts _ am_mr6) q1⟩
    · obtain ⟨a, c2, cell, k2, q1, -⟩ := Cond.exactly_spec (args := #[Value.ref b]) (first := s) (o := none) (s := s) (idx := []) (am_f9 h _ am_me7)
      exact ⟨a, vk_R.of (hts _ am_mr7) q1⟩
    · obtain ⟨a, c2, cell, k2, q1, -⟩ := Cond.exactly_spec (args := #[Value.ref b]) (first := s) (o := none) (s := s) (idx := []) (am_f9 h _ am_me8)
      exact ⟨a, vk_R.of (hts _ am_mr8) q1⟩
    · obtain ⟨a, c2, cell, k2, q1, -⟩ := Cond.exactly_spec (args := #[Value.ref b]) (first := s) (o := none) (s := s) (idx := []) (am_f9 h _ am_me9)
      exact ⟨a, vk_R.of (hts _ am_mr9) q1⟩
    · obtain ⟨a, c2, cell, k2, q1, -⟩ := Cond.exactly_spec (args := #[Value.ref b]) (first := s) (o := none) (s := s) (idx := []) (am_f9 h _ am_me10)
      exact ⟨a, vk_R.of (hts _ am_mr10) q1⟩
    · obtain ⟨a, c2, cell, k2, q1, -⟩ := Cond.exactly_spec (args := #[Value.ref b]) (first := s) (o := none) (s := s) (idx := []) (am_f9 h _ am_me11)
      exact ⟨a, vk_R.of (hts _ am_mr11) q1⟩
    · obtain ⟨a, c2, cell, k2, q1, -⟩ := Cond.exactly_spec (args := #[Value.ref b]) (first := s) (o := none) (s := s) (idx := []) (am_f9 h _ am_me12)
      exact ⟨a, vk_R.of (hts _ am_mr12) q1⟩
    · obtain ⟨a, c2, cell, k2, q1, -⟩ := Cond.exactly_spec (args := #[Value.ref b]) (first := s) (o := none) (s := s) (idx := []) (am_f9 h _ am_me13)
      exact ⟨a, vk_R.of (hts _ am_mr13) q1⟩
    · obtain ⟨a, c2, cell, k2, q1, -⟩ := Cond.exactly_spec (args := #[Value.ref b]) (first := s) (o := none) (s := s) (idx := []) (am_f9 h _ am_me14)
      exact ⟨a, vk_R.of (hts _ am_mr14) q1⟩
  · match x, k, a1, a2, a3, a4, a5 with
    | 1, 1, _, _, _, _, h9 => exact absurd rfl h9
    | 1, 2, _, _, _, _, _ => exact va_Nc.of (am_f9 h 56 (by decide +kernel))
    | 1, 3, _, _, _, _, _ => exact va_Nc.of (am_f9 h 67 (by decide +kernel))
    | 2, 1, _, _, _, _, _ => exact va_Nc.of (am_f9 h 45 (by decide +kernel))
    | 2, 2, _, _, _, _, h9 => exact absurd rfl h9
    | 2, 3, _, _, _, _, _ => exact va_Nc.of (am_f9 h 68 (by decide +kernel))
    | 3, 1, _, _, _, _, _ => exact va_Nc.of (am_f9 h 46 (by decide +kernel))
    | 3, 2, _, _, _, _, _ => exact va_Nc.of (am_f9 h 57 (by decide +kernel))
    | 3, 3, _, _, _, _, h9 => exact absurd rfl h9
  · exact va_Zref (hts _ (am_kin 6 69 rfl)) (hW _ am_k118) hw hA
  · exact va_Zof (hts _ (am_kin 1 136 rfl)) (hW _ am_k111) (va_eqi (am_f9 h 4 (by decide +kernel))) hA
  · exact va_Zqof (hts _ (am_kin 1 152 rfl)) (hts _ (am_kin 1 6 rfl)) (am_f9 h 5 (by decide +kernel)) hA
  · exact vx_Zqof (hts _ (am_kin 4 42 rfl)) (hts _ (am_kin 1 14 rfl)) (am_f9 h 9 (by decide +kernel)) hA
  · exact vx_Zqof (hts _ (am_kin 4 44 rfl)) (hts _ (am_kin 1 14 rfl)) (am_f9 h 10 (by decide +kernel)) hA
end
