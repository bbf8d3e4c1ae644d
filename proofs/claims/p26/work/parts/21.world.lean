/-! ===== the world at the start ===== -/
def am_fl9 : List Cond := flatC (Jvm.Cond.and given_1 narrow_1)
theorem am_f9 {args : Array Value} {s : State} {c : Cond} (h : (Jvm.Cond.and given_1 narrow_1).before args s = true) (i : Nat) (hi : am_fl9[i]? = some c) : c.before args s = true := flat_of_before _ h c (List.mem_of_getElem? hi)
theorem am_OFof {args : Array Value} {s : State} {tm : Term} {nm c n d : String} {k : Nat} {v : Value} {A : Nat → Prop} (hex : (Cond.exactly tm nm).before args s = true) (ht : tm.eval args s none [] s = some (.ref k)) (hv : (Term.field tm c n d).eval args s none [] s = some v) (hA : ∀ a : Nat, a < s.heap.size → ¬ A a) : va_OF c n d v k A s s.heap := by
  obtain ⟨a2, c2, cell, k2, q1, q2, q3, q4, q5, q6, q7⟩ := Cond.exactly_spec (args := args) (first := s) (o := none) (s := s) (idx := []) (t := tm) (cls := nm) hex
  cases ht.symm.trans q1
  cases hfo : s.fieldFound? c n d with
  | none =>
    rw [va_fe ht] at hv
    simp [State.fieldOf?, State.fieldNamed?, hfo] at hv
  | some x =>
    obtain ⟨cf, k3, fi, f⟩ := x
    obtain ⟨g1, cell3, g2, g3, -, -, g6⟩ := Term.field_spec hfo ht hv
    exact ⟨cf, k3, fi, f, cell3, hfo, g1, g2, g3, g6, hA _ (Array.getElem?_eq_some_iff.mp g2).1⟩
/-- a text: its object, its bytes -/
theorem am_txt {args : Array Value} {s : State} {cls : String} {idx N : Nat} {f : Nat → Int32} {A : Nat → Prop} (hN : N < 2 ^ 31) (h1 : (Cond.exactly (.string cls idx) "java/lang/String").before args s = true) (h2 : (Cond.eq (.field (.string cls idx) "java/lang/String" "coder" "B") (.int 0)).before args s = true)
    (h3 : (Cond.arrayOf (.field (.string cls idx) "java/lang/String" "value" "[B") .byte).before args s = true) (h4 : (Cond.eq (.length (.field (.string cls idx) "java/lang/String" "value" "[B")) (.int (Int32.ofNat N))).before args s = true)
    (h5 : ∀ i : Nat, i < N → (Cond.eq (.elem (.field (.string cls idx) "java/lang/String" "value" "[B") (.int (Int32.ofNat i))) (.int (f i))).before args s = true) (hA : ∀ a : Nat, a < s.heap.size → ¬ A a) :
    ∃ k v : Nat, (Term.string cls idx).eval args s none [] s = some (.ref k) ∧ va_O "java/lang/String" k A s s.heap ∧ va_OF "java/lang/String" "coder" "B" (.int 0) k A s s.heap ∧ va_OF "java/lang/String" "value" "[B" (.ref v) k A s s.heap ∧ va_T .byte v N (fun i => .int (f i)) A s s.heap := by
  obtain ⟨k, c2, cell, k2, q1, -⟩ := Cond.exactly_spec (args := args) (first := s) (o := none) (s := s) (idx := []) (t := .string cls idx) (cls := "java/lang/String") h1
  obtain ⟨v, hv, hT⟩ := va_Tof (tm := .field (.string cls idx) "java/lang/String" "value" "[B") (ty := .byte) (N := N) (f := fun i => .int (f i)) hN h3 (va_eqv h4 rfl) (fun i hi => va_eqv (h5 i hi) rfl) hA
  exact ⟨k, v, q1, va_Oof h1 q1 hA, am_OFof h1 q1 (va_eqv h2 rfl) hA, am_OFof h1 q1 hv hA, hT⟩
theorem am_tx0 : ∀ i : Nat, i < 112 → am_fl9[232 + i]? = some (Cond.eq (.elem (.field (.string "BudgetJury$Tokens" 31) "java/lang/String" "value" "[B") (.int (Int32.ofNat i))) (.int (Int32.ofInt (am_tb (0 : Nat) (i : Int))))) := by decide +kernel
theorem am_tz0 {args : Array Value} {s : State} {A : Nat → Prop} (h : (Jvm.Cond.and given_1 narrow_1).before args s = true) (hA : ∀ a : Nat, a < s.heap.size → ¬ A a) : ∃ k v : Nat, (Term.string "BudgetJury$Tokens" 31).eval args s none [] s = some (.ref k) ∧ va_O "java/lang/String" k A s s.heap ∧ va_OF "java/lang/String" "coder" "B" (.int 0) k A s s.heap ∧ va_OF "java/lang/String" "value" "[B" (.ref v) k A s s.heap ∧ va_T .byte v 112 (fun i => .int (Int32.ofInt (am_tb (0 : Nat) (i : Int)))) A s s.heap :=
  am_txt (by decide) (am_f9 h 228 (by decide +kernel)) (am_f9 h 229 (by decide +kernel)) (am_f9 h 230 (by decide +kernel)) (am_f9 h 231 (by decide +kernel)) (fun i hi => am_f9 h _ (am_tx0 i hi)) hA
theorem am_tx1 : ∀ i : Nat, i < 13 → am_fl9[640 + i]? = some (Cond.eq (.elem (.field (.string "BudgetJury$Tokens" 91) "java/lang/String" "value" "[B") (.int (Int32.ofNat i))) (.int (Int32.ofInt (am_tb (1 : Nat) (i : Int))))) := by decide +kernel
theorem am_tz1 {args : Array Value} {s : State} {A : Nat → Prop} (h : (Jvm.Cond.and given_1 narrow_1).before args s = true) (hA : ∀ a : Nat, a < s.heap.size → ¬ A a) : ∃ k v : Nat, (Term.string "BudgetJury$Tokens" 91).eval args s none [] s = some (.ref k) ∧ va_O "java/lang/String" k A s s.heap ∧ va_OF "java/lang/String" "coder" "B" (.int 0) k A s s.heap ∧ va_OF "java/lang/String" "value" "[B" (.ref v) k A s s.heap ∧ va_T .byte v 13 (fun i => .int (Int32.ofInt (am_tb (1 : Nat) (i : Int)))) A s s.heap :=
  am_txt (by decide) (am_f9 h 636 (by decide +kernel)) (am_f9 h 637 (by decide +kernel)) (am_f9 h 638 (by decide +kernel)) (am_f9 h 639 (by decide +kernel)) (fun i hi => am_f9 h _ (am_tx1 i hi)) hA
theorem am_tx2 : ∀ i : Nat, i < 1 → am_fl9[789 + i]? = some (Cond.eq (.elem (.field (.string "BudgetJuryLaw" 35) "java/lang/String" "value" "[B") (.int (Int32.ofNat i))) (.int (Int32.ofInt (am_tb (2 : Nat) (i : Int))))) := by decide +kernel
theorem am_tz2 {args : Array Value} {s : State} {A : Nat → Prop} (h : (Jvm.Cond.and given_1 narrow_1).before args s = true) (hA : ∀ a : Nat, a < s.heap.size → ¬ A a) : ∃ k v : Nat, (Term.string "BudgetJuryLaw" 35).eval args s none [] s = some (.ref k) ∧ va_O "java/lang/String" k A s s.heap ∧ va_OF "java/lang/String" "coder" "B" (.int 0) k A s s.heap ∧ va_OF "java/lang/String" "value" "[B" (.ref v) k A s s.heap ∧ va_T .byte v 1 (fun i => .int (Int32.ofInt (am_tb (2 : Nat) (i : Int)))) A s s.heap :=
  am_txt (by decide) (am_f9 h 785 (by decide +kernel)) (am_f9 h 786 (by decide +kernel)) (am_f9 h 787 (by decide +kernel)) (am_f9 h 788 (by decide +kernel)) (fun i hi => am_f9 h _ (am_tx2 i hi)) hA
theorem am_tx3 : ∀ i : Nat, i < 1 → am_fl9[794 + i]? = some (Cond.eq (.elem (.field (.string "BudgetJuryLaw" 54) "java/lang/String" "value" "[B") (.int (Int32.ofNat i))) (.int (Int32.ofInt (am_tb (3 : Nat) (i : Int))))) := by decide +kernel
theorem am_tz3 {args : Array Value} {s : State} {A : Nat → Prop} (h : (Jvm.Cond.and given_1 narrow_1).before args s = true) (hA : ∀ a : Nat, a < s.heap.size → ¬ A a) : ∃ k v : Nat, (Term.string "BudgetJuryLaw" 54).eval args s none [] s = some (.ref k) ∧ va_O "java/lang/String" k A s s.heap ∧ va_OF "java/lang/String" "coder" "B" (.int 0) k A s s.heap ∧ va_OF "java/lang/String" "value" "[B" (.ref v) k A s s.heap ∧ va_T .byte v 1 (fun i => .int (Int32.ofInt (am_tb (3 : Nat) (i : Int)))) A s s.heap :=
  am_txt (by decide) (am_f9 h 790 (by decide +kernel)) (am_f9 h 791 (by decide +kernel)) (am_f9 h 792 (by decide +kernel)) (am_f9 h 793 (by decide +kernel)) (fun i hi => am_f9 h _ (am_tx3 i hi)) hA
theorem am_tx4 : ∀ i : Nat, i < 5 → am_fl9[799 + i]? = some (Cond.eq (.elem (.field (.string "BudgetJuryLaw" 59) "java/lang/String" "value" "[B") (.int (Int32.ofNat i))) (.int (Int32.ofInt (am_tb (4 : Nat) (i : Int))))) := by decide +kernel
theorem am_tz4 {args : Array Value} {s : State} {A : Nat → Prop} (h : (Jvm.Cond.and given_1 narrow_1).before args s = true) (hA : ∀ a : Nat, a < s.heap.size → ¬ A a) : ∃ k v : Nat, (Term.string "BudgetJuryLaw" 59).eval args s none [] s = some (.ref k) ∧ va_O "java/lang/String" k A s s.heap ∧ va_OF "java/lang/String" "coder" "B" (.int 0) k A s s.heap ∧ va_OF "java/lang/String" "value" "[B" (.ref v) k A s s.heap ∧ va_T .byte v 5 (fun i => .int (Int32.ofInt (am_tb (4 : Nat) (i : Int)))) A s s.heap :=
  am_txt (by decide) (am_f9 h 795 (by decide +kernel)) (am_f9 h 796 (by decide +kernel)) (am_f9 h 797 (by decide +kernel)) (am_f9 h 798 (by decide +kernel)) (fun i hi => am_f9 h _ (am_tx4 i hi)) hA
theorem am_tx5 : ∀ i : Nat, i < 1 → am_fl9[808 + i]? = some (Cond.eq (.elem (.field (.string "BudgetJuryLaw" 61) "java/lang/String" "value" "[B") (.int (Int32.ofNat i))) (.int (Int32.ofInt (am_tb (5 : Nat) (i : Int))))) := by decide +kernel
theorem am_tz5 {args : Array Value} {s : State} {A : Nat → Prop} (h : (Jvm.Cond.and given_1 narrow_1).before args s = true) (hA : ∀ a : Nat, a < s.heap.size → ¬ A a) : ∃ k v : Nat, (Term.string "BudgetJuryLaw" 61).eval args s none [] s = some (.ref k) ∧ va_O "java/lang/String" k A s s.heap ∧ va_OF "java/lang/String" "coder" "B" (.int 0) k A s s.heap ∧ va_OF "java/lang/String" "value" "[B" (.ref v) k A s s.heap ∧ va_T .byte v 1 (fun i => .int (Int32.ofInt (am_tb (5 : Nat) (i : Int)))) A s s.heap :=
  am_txt (by decide) (am_f9 h 804 (by decide +kernel)) (am_f9 h 805 (by decide +kernel)) (am_f9 h 806 (by decide +kernel)) (am_f9 h 807 (by decide +kernel)) (fun i hi => am_f9 h _ (am_tx5 i hi)) hA
theorem am_tx6 : ∀ i : Nat, i < 5 → am_fl9[813 + i]? = some (Cond.eq (.elem (.field (.string "BudgetJuryLaw" 63) "java/lang/String" "value" "[B") (.int (Int32.ofNat i))) (.int (Int32.ofInt (am_tb (6 : Nat) (i : Int))))) := by decide +kernel
theorem am_tz6 {args : Array Value} {s : State} {A : Nat → Prop} (h : (Jvm.Cond.and given_1 narrow_1).before args s = true) (hA : ∀ a : Nat, a < s.heap.size → ¬ A a) : ∃ k v : Nat, (Term.string "BudgetJuryLaw" 63).eval args s none [] s = some (.ref k) ∧ va_O "java/lang/String" k A s s.heap ∧ va_OF "java/lang/String" "coder" "B" (.int 0) k A s s.heap ∧ va_OF "java/lang/String" "value" "[B" (.ref v) k A s s.heap ∧ va_T .byte v 5 (fun i => .int (Int32.ofInt (am_tb (6 : Nat) (i : Int)))) A s s.heap :=
  am_txt (by decide) (am_f9 h 809 (by decide +kernel)) (am_f9 h 810 (by decide +kernel)) (am_f9 h 811 (by decide +kernel)) (am_f9 h 812 (by decide +kernel)) (fun i hi => am_f9 h _ (am_tx6 i hi)) hA
theorem am_tx7 : ∀ i : Nat, i < 4 → am_fl9[822 + i]? = some (Cond.eq (.elem (.field (.string "BudgetJuryLaw" 65) "java/lang/String" "value" "[B") (.int (Int32.ofNat i))) (.int (Int32.ofInt (am_tb (7 : Nat) (i : Int))))) := by decide +kernel
theorem am_tz7 {args : Array Value} {s : State} {A : Nat → Prop} (h : (Jvm.Cond.and given_1 narrow_1).before args s = true) (hA : ∀ a : Nat, a < s.heap.size → ¬ A a) : ∃ k v : Nat, (Term.string "BudgetJuryLaw" 65).eval args s none [] s = some (.ref k) ∧ va_O "java/lang/String" k A s s.heap ∧ va_OF "java/lang/String" "coder" "B" (.int 0) k A s s.heap ∧ va_OF "java/lang/String" "value" "[B" (.ref v) k A s s.heap ∧ va_T .byte v 4 (fun i => .int (Int32.ofInt (am_tb (7 : Nat) (i : Int)))) A s s.heap :=
  am_txt (by decide) (am_f9 h 818 (by decide +kernel)) (am_f9 h 819 (by decide +kernel)) (am_f9 h 820 (by decide +kernel)) (am_f9 h 821 (by decide +kernel)) (fun i hi => am_f9 h _ (am_tx7 i hi)) hA
theorem am_tx8 : ∀ i : Nat, i < 6 → am_fl9[830 + i]? = some (Cond.eq (.elem (.field (.string "BudgetJuryLaw" 67) "java/lang/String" "value" "[B") (.int (Int32.ofNat i))) (.int (Int32.ofInt (am_tb (8 : Nat) (i : Int))))) := by decide +kernel
theorem am_tz8 {args : Array Value} {s : State} {A : Nat → Prop} (h : (Jvm.Cond.and given_1 narrow_1).before args s = true) (hA : ∀ a : Nat, a < s.heap.size → ¬ A a) : ∃ k v : Nat, (Term.string "BudgetJuryLaw" 67).eval args s none [] s = some (.ref k) ∧ va_O "java/lang/String" k A s s.heap ∧ va_OF "java/lang/String" "coder" "B" (.int 0) k A s s.heap ∧ va_OF "java/lang/String" "value" "[B" (.ref v) k A s s.heap ∧ va_T .byte v 6 (fun i => .int (Int32.ofInt (am_tb (8 : Nat) (i : Int)))) A s s.heap :=
  am_txt (by decide) (am_f9 h 826 (by decide +kernel)) (am_f9 h 827 (by decide +kernel)) (am_f9 h 828 (by decide +kernel)) (am_f9 h 829 (by decide +kernel)) (fun i hi => am_f9 h _ (am_tx8 i hi)) hA
theorem am_tx9 : ∀ i : Nat, i < 6 → am_fl9[840 + i]? = some (Cond.eq (.elem (.field (.string "BudgetJuryLaw" 69) "java/lang/String" "value" "[B") (.int (Int32.ofNat i))) (.int (Int32.ofInt (am_tb (9 : Nat) (i : Int))))) := by decide +kernel
theorem am_tz9 {args : Array Value} {s : State} {A : Nat → Prop} (h : (Jvm.Cond.and given_1 narrow_1).before args s = true) (hA : ∀ a : Nat, a < s.heap.size → ¬ A a) : ∃ k v : Nat, (Term.string "BudgetJuryLaw" 69).eval args s none [] s = some (.ref k) ∧ va_O "java/lang/String" k A s s.heap ∧ va_OF "java/lang/String" "coder" "B" (.int 0) k A s s.heap ∧ va_OF "java/lang/String" "value" "[B" (.ref v) k A s s.heap ∧ va_T .byte v 6 (fun i => .int (Int32.ofInt (am_tb (9 : Nat) (i : Int)))) A s s.heap :=
  am_txt (by decide) (am_f9 h 836 (by decide +kernel)) (am_f9 h 837 (by decide +kernel)) (am_f9 h 838 (by decide +kernel)) (am_f9 h 839 (by decide +kernel)) (fun i hi => am_f9 h _ (am_tx9 i hi)) hA
theorem am_tx10 : ∀ i : Nat, i < 1 → am_fl9[850 + i]? = some (Cond.eq (.elem (.field (.string "BudgetJuryLaw" 71) "java/lang/String" "value" "[B") (.int (Int32.ofNat i))) (.int (Int32.ofInt (am_tb (10 : Nat) (i : Int))))) := by decide +kernel
theorem am_tz10 {args : Array Value} {s : State} {A : Nat → Prop} (h : (Jvm.Cond.and given_1 narrow_1).before args s = true) (hA : ∀ a : Nat, a < s.heap.size → ¬ A a) : ∃ k v : Nat, (Term.string "BudgetJuryLaw" 71).eval args s none [] s = some (.ref k) ∧ va_O "java/lang/String" k A s s.heap ∧ va_OF "java/lang/String" "coder" "B" (.int 0) k A s s.heap ∧ va_OF "java/lang/String" "value" "[B" (.ref v) k A s s.heap ∧ va_T .byte v 1 (fun i => .int (Int32.ofInt (am_tb (10 : Nat) (i : Int)))) A s s.heap :=
  am_txt (by decide) (am_f9 h 846 (by decide +kernel)) (am_f9 h 847 (by decide +kernel)) (am_f9 h 848 (by decide +kernel)) (am_f9 h 849 (by decide +kernel)) (fun i hi => am_f9 h _ (am_tx10 i hi)) hA
theorem am_tx11 : ∀ i : Nat, i < 5 → am_fl9[855 + i]? = some (Cond.eq (.elem (.field (.string "BudgetJuryLaw" 73) "java/lang/String" "value" "[B") (.int (Int32.ofNat i))) (.int (Int32.ofInt (am_tb (11 : Nat) (i : Int))))) := by decide +kernel
theorem am_tz11 {args : Array Value} {s : State} {A : Nat → Prop} (h : (Jvm.Cond.and given_1 narrow_1).before args s = true) (hA : ∀ a : Nat, a < s.heap.size → ¬ A a) : ∃ k v : Nat, (Term.string "BudgetJuryLaw" 73).eval args s none [] s = some (.ref k) ∧ va_O "java/lang/String" k A s s.heap ∧ va_OF "java/lang/String" "coder" "B" (.int 0) k A s s.heap ∧ va_OF "java/lang/String" "value" "[B" (.ref v) k A s s.heap ∧ va_T .byte v 5 (fun i => .int (Int32.ofInt (am_tb (11 : Nat) (i : Int)))) A s s.heap :=
  am_txt (by decide) (am_f9 h 851 (by decide +kernel)) (am_f9 h 852 (by decide +kernel)) (am_f9 h 853 (by decide +kernel)) (am_f9 h 854 (by decide +kernel)) (fun i hi => am_f9 h _ (am_tx11 i hi)) hA
theorem am_tx12 : ∀ i : Nat, i < 3 → am_fl9[864 + i]? = some (Cond.eq (.elem (.field (.string "BudgetJuryLaw" 75) "java/lang/String" "value" "[B") (.int (Int32.ofNat i))) (.int (Int32.ofInt (am_tb (12 : Nat) (i : Int))))) := by decide +kernel
theorem am_tz12 {args : Array Value} {s : State} {A : Nat → Prop} (h : (Jvm.Cond.and given_1 narrow_1).before args s = true) (hA : ∀ a : Nat, a < s.heap.size → ¬ A a) : ∃ k v : Nat, (Term.string "BudgetJuryLaw" 75).eval args s none [] s = some (.ref k) ∧ va_O "java/lang/String" k A s s.heap ∧ va_OF "java/lang/String" "coder" "B" (.int 0) k A s s.heap ∧ va_OF "java/lang/String" "value" "[B" (.ref v) k A s s.heap ∧ va_T .byte v 3 (fun i => .int (Int32.ofInt (am_tb (12 : Nat) (i : Int)))) A s s.heap :=
  am_txt (by decide) (am_f9 h 860 (by decide +kernel)) (am_f9 h 861 (by decide +kernel)) (am_f9 h 862 (by decide +kernel)) (am_f9 h 863 (by decide +kernel)) (fun i hi => am_f9 h _ (am_tx12 i hi)) hA
theorem am_tx13 : ∀ i : Nat, i < 9 → am_fl9[871 + i]? = some (Cond.eq (.elem (.field (.string "BudgetJuryLaw" 77) "java/lang/String" "value" "[B") (.int (Int32.ofNat i))) (.int (Int32.ofInt (am_tb (13 : Nat) (i : Int))))) := by decide +kernel
theorem am_tz13 {args : Array Value} {s : State} {A : Nat → Prop} (h : (Jvm.Cond.and given_1 narrow_1).before args s = true) (hA : ∀ a : Nat, a < s.heap.size → ¬ A a) : ∃ k v : Nat, (Term.string "BudgetJuryLaw" 77).eval args s none [] s = some (.ref k) ∧ va_O "java/lang/String" k A s s.heap ∧ va_OF "java/lang/String" "coder" "B" (.int 0) k A s s.heap ∧ va_OF "java/lang/String" "value" "[B" (.ref v) k A s s.heap ∧ va_T .byte v 9 (fun i => .int (Int32.ofInt (am_tb (13 : Nat) (i : Int)))) A s s.heap :=
  am_txt (by decide) (am_f9 h 867 (by decide +kernel)) (am_f9 h 868 (by decide +kernel)) (am_f9 h 869 (by decide +kernel)) (am_f9 h 870 (by decide +kernel)) (fun i hi => am_f9 h _ (am_tx13 i hi)) hA
theorem am_tx14 : ∀ i : Nat, i < 2 → am_fl9[884 + i]? = some (Cond.eq (.elem (.field (.string "BudgetJuryLaw" 79) "java/lang/String" "value" "[B") (.int (Int32.ofNat i))) (.int (Int32.ofInt (am_tb (14 : Nat) (i : Int))))) := by decide +kernel
theorem am_tz14 {args : Array Value} {s : State} {A : Nat → Prop} (h : (Jvm.Cond.and given_1 narrow_1).before args s = true) (hA : ∀ a : Nat, a < s.heap.size → ¬ A a) : ∃ k v : Nat, (Term.string "BudgetJuryLaw" 79).eval args s none [] s = some (.ref k) ∧ va_O "java/lang/String" k A s s.heap ∧ va_OF "java/lang/String" "coder" "B" (.int 0) k A s s.heap ∧ va_OF "java/lang/String" "value" "[B" (.ref v) k A s s.heap ∧ va_T .byte v 2 (fun i => .int (Int32.ofInt (am_tb (14 : Nat) (i : Int)))) A s s.heap :=
  am_txt (by decide) (am_f9 h 880 (by decide +kernel)) (am_f9 h 881 (by decide +kernel)) (am_f9 h 882 (by decide +kernel)) (am_f9 h 883 (by decide +kernel)) (fun i hi => am_f9 h _ (am_tx14 i hi)) hA
theorem am_tx15 : ∀ i : Nat, i < 6 → am_fl9[890 + i]? = some (Cond.eq (.elem (.field (.string "BudgetJuryLaw" 81) "java/lang/String" "value" "[B") (.int (Int32.ofNat i))) (.int (Int32.ofInt (am_tb (15 : Nat) (i : Int))))) := by decide +kernel
theorem am_tz15 {args : Array Value} {s : State} {A : Nat → Prop} (h : (Jvm.Cond.and given_1 narrow_1).before args s = true) (hA : ∀ a : Nat, a < s.heap.size → ¬ A a) : ∃ k v : Nat, (Term.string "BudgetJuryLaw" 81).eval args s none [] s = some (.ref k) ∧ va_O "java/lang/String" k A s s.heap ∧ va_OF "java/lang/String" "coder" "B" (.int 0) k A s s.heap ∧ va_OF "java/lang/String" "value" "[B" (.ref v) k A s s.heap ∧ va_T .byte v 6 (fun i => .int (Int32.ofInt (am_tb (15 : Nat) (i : Int)))) A s s.heap :=
  am_txt (by decide) (am_f9 h 886 (by decide +kernel)) (am_f9 h 887 (by decide +kernel)) (am_f9 h 888 (by decide +kernel)) (am_f9 h 889 (by decide +kernel)) (fun i hi => am_f9 h _ (am_tx15 i hi)) hA
theorem am_tx16 : ∀ i : Nat, i < 1 → am_fl9[900 + i]? = some (Cond.eq (.elem (.field (.string "BudgetJuryLaw" 83) "java/lang/String" "value" "[B") (.int (Int32.ofNat i))) (.int (Int32.ofInt (am_tb (16 : Nat) (i : Int))))) := by decide +kernel
theorem am_tz16 {args : Array Value} {s : State} {A : Nat → Prop} (h : (Jvm.Cond.and given_1 narrow_1).before args s = true) (hA : ∀ a : Nat, a < s.heap.size → ¬ A a) : ∃ k v : Nat, (Term.string "BudgetJuryLaw" 83).eval args s none [] s = some (.ref k) ∧ va_O "java/lang/String" k A s s.heap ∧ va_OF "java/lang/String" "coder" "B" (.int 0) k A s s.heap ∧ va_OF "java/lang/String" "value" "[B" (.ref v) k A s s.heap ∧ va_T .byte v 1 (fun i => .int (Int32.ofInt (am_tb (16 : Nat) (i : Int)))) A s s.heap :=
  am_txt (by decide) (am_f9 h 896 (by decide +kernel)) (am_f9 h 897 (by decide +kernel)) (am_f9 h 898 (by decide +kernel)) (am_f9 h 899 (by decide +kernel)) (fun i hi => am_f9 h _ (am_tx16 i hi)) hA
theorem am_tx17 : ∀ i : Nat, i < 12 → am_fl9[905 + i]? = some (Cond.eq (.elem (.field (.string "BudgetJuryLaw" 85) "java/lang/String" "value" "[B") (.int (Int32.ofNat i))) (.int (Int32.ofInt (am_tb (17 : Nat) (i : Int))))) := by decide +kernel
theorem am_tz17 {args : Array Value} {s : State} {A : Nat → Prop} (h : (Jvm.Cond.and given_1 narrow_1).before args s = true) (hA : ∀ a : Nat, a < s.heap.size → ¬ A a) : ∃ k v : Nat, (Term.string "BudgetJuryLaw" 85).eval args s none [] s = some (.ref k) ∧ va_O "java/lang/String" k A s s.heap ∧ va_OF "java/lang/String" "coder" "B" (.int 0) k A s s.heap ∧ va_OF "java/lang/String" "value" "[B" (.ref v) k A s s.heap ∧ va_T .byte v 12 (fun i => .int (Int32.ofInt (am_tb (17 : Nat) (i : Int)))) A s s.heap :=
  am_txt (by decide) (am_f9 h 901 (by decide +kernel)) (am_f9 h 902 (by decide +kernel)) (am_f9 h 903 (by decide +kernel)) (am_f9 h 904 (by decide +kernel)) (fun i hi => am_f9 h _ (am_tx17 i hi)) hA
theorem am_tx18 : ∀ i : Nat, i < 8 → am_fl9[921 + i]? = some (Cond.eq (.elem (.field (.string "BudgetJuryLaw" 87) "java/lang/String" "value" "[B") (.int (Int32.ofNat i))) (.int (Int32.ofInt (am_tb (18 : Nat) (i : Int))))) := by decide +kernel
theorem am_tz18 {args : Array Value} {s : State} {A : Nat → Prop} (h : (Jvm.Cond.and given_1 narrow_1).before args s = true) (hA : ∀ a : Nat, a < s.heap.size → ¬ A a) : ∃ k v : Nat, (Term.string "BudgetJuryLaw" 87).eval args s none [] s = some (.ref k) ∧ va_O "java/lang/String" k A s s.heap ∧ va_OF "java/lang/String" "coder" "B" (.int 0) k A s s.heap ∧ va_OF "java/lang/String" "value" "[B" (.ref v) k A s s.heap ∧ va_T .byte v 8 (fun i => .int (Int32.ofInt (am_tb (18 : Nat) (i : Int)))) A s s.heap :=
  am_txt (by decide) (am_f9 h 917 (by decide +kernel)) (am_f9 h 918 (by decide +kernel)) (am_f9 h 919 (by decide +kernel)) (am_f9 h 920 (by decide +kernel)) (fun i hi => am_f9 h _ (am_tx18 i hi)) hA
theorem am_tx19 : ∀ i : Nat, i < 19 → am_fl9[933 + i]? = some (Cond.eq (.elem (.field (.string "BudgetJuryLaw" 89) "java/lang/String" "value" "[B") (.int (Int32.ofNat i))) (.int (Int32.ofInt (am_tb (19 : Nat) (i : Int))))) := by decide +kernel
theorem am_tz19 {args : Array Value} {s : State} {A : Nat → Prop} (h : (Jvm.Cond.and given_1 narrow_1).before args s = true) (hA : ∀ a : Nat, a < s.heap.size → ¬ A a) : ∃ k v : Nat, (Term.string "BudgetJuryLaw" 89).eval args s none [] s = some (.ref k) ∧ va_O "java/lang/String" k A s s.heap ∧ va_OF "java/lang/String" "coder" "B" (.int 0) k A s s.heap ∧ va_OF "java/lang/String" "value" "[B" (.ref v) k A s s.heap ∧ va_T .byte v 19 (fun i => .int (Int32.ofInt (am_tb (19 : Nat) (i : Int)))) A s s.heap :=
  am_txt (by decide) (am_f9 h 929 (by decide +kernel)) (am_f9 h 930 (by decide +kernel)) (am_f9 h 931 (by decide +kernel)) (am_f9 h 932 (by decide +kernel)) (fun i hi => am_f9 h _ (am_tx19 i hi)) hA
theorem am_tx20 : ∀ i : Nat, i < 14 → am_fl9[956 + i]? = some (Cond.eq (.elem (.field (.string "BudgetJuryLaw" 91) "java/lang/String" "value" "[B") (.int (Int32.ofNat i))) (.int (Int32.ofInt (am_tb (20 : Nat) (i : Int))))) := by decide +kernel
theorem am_tz20 {args : Array Value} {s : State} {A : Nat → Prop} (h : (Jvm.Cond.and given_1 narrow_1).before args s = true) (hA : ∀ a : Nat, a < s.heap.size → ¬ A a) : ∃ k v : Nat, (Term.string "BudgetJuryLaw" 91).eval args s none [] s = some (.ref k) ∧ va_O "java/lang/String" k A s s.heap ∧ va_OF "java/lang/String" "coder" "B" (.int 0) k A s s.heap ∧ va_OF "java/lang/String" "value" "[B" (.ref v) k A s s.heap ∧ va_T .byte v 14 (fun i => .int (Int32.ofInt (am_tb (20 : Nat) (i : Int)))) A s s.heap :=
  am_txt (by decide) (am_f9 h 952 (by decide +kernel)) (am_f9 h 953 (by decide +kernel)) (am_f9 h 954 (by decide +kernel)) (am_f9 h 955 (by decide +kernel)) (fun i hi => am_f9 h _ (am_tx20 i hi)) hA
theorem am_tx21 : ∀ i : Nat, i < 1 → am_fl9[974 + i]? = some (Cond.eq (.elem (.field (.string "BudgetJuryLaw" 93) "java/lang/String" "value" "[B") (.int (Int32.ofNat i))) (.int (Int32.ofInt (am_tb (21 : Nat) (i : Int))))) := by decide +kernel
theorem am_tz21 {args : Array Value} {s : State} {A : Nat → Prop} (h : (Jvm.Cond.and given_1 narrow_1).before args s = true) (hA : ∀ a : Nat, a < s.heap.size → ¬ A a) : ∃ k v : Nat, (Term.string "BudgetJuryLaw" 93).eval args s none [] s = some (.ref k) ∧ va_O "java/lang/String" k A s s.heap ∧ va_OF "java/lang/String" "coder" "B" (.int 0) k A s s.heap ∧ va_OF "java/lang/String" "value" "[B" (.ref v) k A s s.heap ∧ va_T .byte v 1 (fun i => .int (Int32.ofInt (am_tb (21 : Nat) (i : Int)))) A s s.heap :=
  am_txt (by decide) (am_f9 h 970 (by decide +kernel)) (am_f9 h 971 (by decide +kernel)) (am_f9 h 972 (by decide +kernel)) (am_f9 h 973 (by decide +kernel)) (fun i hi => am_f9 h _ (am_tx21 i hi)) hA
theorem am_tx22 : ∀ i : Nat, i < 6 → am_fl9[657 + i]? = some (Cond.eq (.elem (.field (.string "BudgetJuryLaw" 110) "java/lang/String" "value" "[B") (.int (Int32.ofNat i))) (.int (Int32.ofInt (am_tb (22 : Nat) (i : Int))))) := by decide +kernel
theorem am_tz22 {args : Array Value} {s : State} {A : Nat → Prop} (h : (Jvm.Cond.and given_1 narrow_1).before args s = true) (hA : ∀ a : Nat, a < s.heap.size → ¬ A a) : ∃ k v : Nat, (Term.string "BudgetJuryLaw" 110).eval args s none [] s = some (.ref k) ∧ va_O "java/lang/String" k A s s.heap ∧ va_OF "java/lang/String" "coder" "B" (.int 0) k A s s.heap ∧ va_OF "java/lang/String" "value" "[B" (.ref v) k A s s.heap ∧ va_T .byte v 6 (fun i => .int (Int32.ofInt (am_tb (22 : Nat) (i : Int)))) A s s.heap :=
  am_txt (by decide) (am_f9 h 653 (by decide +kernel)) (am_f9 h 654 (by decide +kernel)) (am_f9 h 655 (by decide +kernel)) (am_f9 h 656 (by decide +kernel)) (fun i hi => am_f9 h _ (am_tx22 i hi)) hA
theorem am_tx23 : ∀ i : Nat, i < 5 → am_fl9[667 + i]? = some (Cond.eq (.elem (.field (.string "BudgetJuryLaw" 112) "java/lang/String" "value" "[B") (.int (Int32.ofNat i))) (.int (Int32.ofInt (am_tb (23 : Nat) (i : Int))))) := by decide +kernel
theorem am_tz23 {args : Array Value} {s : State} {A : Nat → Prop} (h : (Jvm.Cond.and given_1 narrow_1).before args s = true) (hA : ∀ a : Nat, a < s.heap.size → ¬ A a) : ∃ k v : Nat, (Term.string "BudgetJuryLaw" 112).eval args s none [] s = some (.ref k) ∧ va_O "java/lang/String" k A s s.heap ∧ va_OF "java/lang/String" "coder" "B" (.int 0) k A s s.heap ∧ va_OF "java/lang/String" "value" "[B" (.ref v) k A s s.heap ∧ va_T .byte v 5 (fun i => .int (Int32.ofInt (am_tb (23 : Nat) (i : Int)))) A s s.heap :=
  am_txt (by decide) (am_f9 h 663 (by decide +kernel)) (am_f9 h 664 (by decide +kernel)) (am_f9 h 665 (by decide +kernel)) (am_f9 h 666 (by decide +kernel)) (fun i hi => am_f9 h _ (am_tx23 i hi)) hA
theorem am_tx24 : ∀ i : Nat, i < 1 → am_fl9[676 + i]? = some (Cond.eq (.elem (.field (.string "BudgetJuryLaw" 114) "java/lang/String" "value" "[B") (.int (Int32.ofNat i))) (.int (Int32.ofInt (am_tb (24 : Nat) (i : Int))))) := by decide +kernel
theorem am_tz24 {args : Array Value} {s : State} {A : Nat → Prop} (h : (Jvm.Cond.and given_1 narrow_1).before args s = true) (hA : ∀ a : Nat, a < s.heap.size → ¬ A a) : ∃ k v : Nat, (Term.string "BudgetJuryLaw" 114).eval args s none [] s = some (.ref k) ∧ va_O "java/lang/String" k A s s.heap ∧ va_OF "java/lang/String" "coder" "B" (.int 0) k A s s.heap ∧ va_OF "java/lang/String" "value" "[B" (.ref v) k A s s.heap ∧ va_T .byte v 1 (fun i => .int (Int32.ofInt (am_tb (24 : Nat) (i : Int)))) A s s.heap :=
  am_txt (by decide) (am_f9 h 672 (by decide +kernel)) (am_f9 h 673 (by decide +kernel)) (am_f9 h 674 (by decide +kernel)) (am_f9 h 675 (by decide +kernel)) (fun i hi => am_f9 h _ (am_tx24 i hi)) hA
theorem am_tx25 : ∀ i : Nat, i < 7 → am_fl9[681 + i]? = some (Cond.eq (.elem (.field (.string "BudgetJuryLaw" 120) "java/lang/String" "value" "[B") (.int (Int32.ofNat i))) (.int (Int32.ofInt (am_tb (25 : Nat) (i : Int))))) := by decide +kernel
theorem am_tz25 {args : Array Value} {s : State} {A : Nat → Prop} (h : (Jvm.Cond.and given_1 narrow_1).before args s = true) (hA : ∀ a : Nat, a < s.heap.size → ¬ A a) : ∃ k v : Nat, (Term.string "BudgetJuryLaw" 120).eval args s none [] s = some (.ref k) ∧ va_O "java/lang/String" k A s s.heap ∧ va_OF "java/lang/String" "coder" "B" (.int 0) k A s s.heap ∧ va_OF "java/lang/String" "value" "[B" (.ref v) k A s s.heap ∧ va_T .byte v 7 (fun i => .int (Int32.ofInt (am_tb (25 : Nat) (i : Int)))) A s s.heap :=
  am_txt (by decide) (am_f9 h 677 (by decide +kernel)) (am_f9 h 678 (by decide +kernel)) (am_f9 h 679 (by decide +kernel)) (am_f9 h 680 (by decide +kernel)) (fun i hi => am_f9 h _ (am_tx25 i hi)) hA
theorem am_tx26 : ∀ i : Nat, i < 2 → am_fl9[692 + i]? = some (Cond.eq (.elem (.field (.string "BudgetJuryLaw" 122) "java/lang/String" "value" "[B") (.int (Int32.ofNat i))) (.int (Int32.ofInt (am_tb (26 : Nat) (i : Int))))) := by decide +kernel
theorem am_tz26 {args : Array Value} {s : State} {A : Nat → Prop} (h : (Jvm.Cond.and given_1 narrow_1).before args s = true) (hA : ∀ a : Nat, a < s.heap.size → ¬ A a) : ∃ k v : Nat, (Term.string "BudgetJuryLaw" 122).eval args s none [] s = some (.ref k) ∧ va_O "java/lang/String" k A s s.heap ∧ va_OF "java/lang/String" "coder" "B" (.int 0) k A s s.heap ∧ va_OF "java/lang/String" "value" "[B" (.ref v) k A s s.heap ∧ va_T .byte v 2 (fun i => .int (Int32.ofInt (am_tb (26 : Nat) (i : Int)))) A s s.heap :=
  am_txt (by decide) (am_f9 h 688 (by decide +kernel)) (am_f9 h 689 (by decide +kernel)) (am_f9 h 690 (by decide +kernel)) (am_f9 h 691 (by decide +kernel)) (fun i hi => am_f9 h _ (am_tx26 i hi)) hA
theorem am_tx27 : ∀ i : Nat, i < 9 → am_fl9[698 + i]? = some (Cond.eq (.elem (.field (.string "BudgetJuryLaw" 125) "java/lang/String" "value" "[B") (.int (Int32.ofNat i))) (.int (Int32.ofInt (am_tb (27 : Nat) (i : Int))))) := by decide +kernel
theorem am_tz27 {args : Array Value} {s : State} {A : Nat → Prop} (h : (Jvm.Cond.and given_1 narrow_1).before args s = true) (hA : ∀ a : Nat, a < s.heap.size → ¬ A a) : ∃ k v : Nat, (Term.string "BudgetJuryLaw" 125).eval args s none [] s = some (.ref k) ∧ va_O "java/lang/String" k A s s.heap ∧ va_OF "java/lang/String" "coder" "B" (.int 0) k A s s.heap ∧ va_OF "java/lang/String" "value" "[B" (.ref v) k A s s.heap ∧ va_T .byte v 9 (fun i => .int (Int32.ofInt (am_tb (27 : Nat) (i : Int)))) A s s.heap :=
  am_txt (by decide) (am_f9 h 694 (by decide +kernel)) (am_f9 h 695 (by decide +kernel)) (am_f9 h 696 (by decide +kernel)) (am_f9 h 697 (by decide +kernel)) (fun i hi => am_f9 h _ (am_tx27 i hi)) hA
theorem am_tx28 : ∀ i : Nat, i < 6 → am_fl9[711 + i]? = some (Cond.eq (.elem (.field (.string "BudgetJuryLaw" 127) "java/lang/String" "value" "[B") (.int (Int32.ofNat i))) (.int (Int32.ofInt (am_tb (28 : Nat) (i : Int))))) := by decide +kernel
theorem am_tz28 {args : Array Value} {s : State} {A : Nat → Prop} (h : (Jvm.Cond.and given_1 narrow_1).before args s = true) (hA : ∀ a : Nat, a < s.heap.size → ¬ A a) : ∃ k v : Nat, (Term.string "BudgetJuryLaw" 127).eval args s none [] s = some (.ref k) ∧ va_O "java/lang/String" k A s s.heap ∧ va_OF "java/lang/String" "coder" "B" (.int 0) k A s s.heap ∧ va_OF "java/lang/String" "value" "[B" (.ref v) k A s s.heap ∧ va_T .byte v 6 (fun i => .int (Int32.ofInt (am_tb (28 : Nat) (i : Int)))) A s s.heap :=
  am_txt (by decide) (am_f9 h 707 (by decide +kernel)) (am_f9 h 708 (by decide +kernel)) (am_f9 h 709 (by decide +kernel)) (am_f9 h 710 (by decide +kernel)) (fun i hi => am_f9 h _ (am_tx28 i hi)) hA
theorem am_tx29 : ∀ i : Nat, i < 5 → am_fl9[721 + i]? = some (Cond.eq (.elem (.field (.string "BudgetJuryLaw" 129) "java/lang/String" "value" "[B") (.int (Int32.ofNat i))) (.int (Int32.ofInt (am_tb (29 : Nat) (i : Int))))) := by decide +kernel
theorem am_tz29 {args : Array Value} {s : State} {A : Nat → Prop} (h : (Jvm.Cond.and given_1 narrow_1).before args s = true) (hA : ∀ a : Nat, a < s.heap.size → ¬ A a) : ∃ k v : Nat, (Term.string "BudgetJuryLaw" 129).eval args s none [] s = some (.ref k) ∧ va_O "java/lang/String" k A s s.heap ∧ va_OF "java/lang/String" "coder" "B" (.int 0) k A s s.heap ∧ va_OF "java/lang/String" "value" "[B" (.ref v) k A s s.heap ∧ va_T .byte v 5 (fun i => .int (Int32.ofInt (am_tb (29 : Nat) (i : Int)))) A s s.heap :=
  am_txt (by decide) (am_f9 h 717 (by decide +kernel)) (am_f9 h 718 (by decide +kernel)) (am_f9 h 719 (by decide +kernel)) (am_f9 h 720 (by decide +kernel)) (fun i hi => am_f9 h _ (am_tx29 i hi)) hA
theorem am_tx30 : ∀ i : Nat, i < 7 → am_fl9[730 + i]? = some (Cond.eq (.elem (.field (.string "BudgetJuryLaw" 131) "java/lang/String" "value" "[B") (.int (Int32.ofNat i))) (.int (Int32.ofInt (am_tb (30 : Nat) (i : Int))))) := by decide +kernel
theorem am_tz30 {args : Array Value} {s : State} {A : Nat → Prop} (h : (Jvm.Cond.and given_1 narrow_1).before args s = true) (hA : ∀ a : Nat, a < s.heap.size → ¬ A a) : ∃ k v : Nat, (Term.string "BudgetJuryLaw" 131).eval args s none [] s = some (.ref k) ∧ va_O "java/lang/String" k A s s.heap ∧ va_OF "java/lang/String" "coder" "B" (.int 0) k A s s.heap ∧ va_OF "java/lang/String" "value" "[B" (.ref v) k A s s.heap ∧ va_T .byte v 7 (fun i => .int (Int32.ofInt (am_tb (30 : Nat) (i : Int)))) A s s.heap :=
  am_txt (by decide) (am_f9 h 726 (by decide +kernel)) (am_f9 h 727 (by decide +kernel)) (am_f9 h 728 (by decide +kernel)) (am_f9 h 729 (by decide +kernel)) (fun i hi => am_f9 h _ (am_tx30 i hi)) hA
theorem am_tx31 : ∀ i : Nat, i < 7 → am_fl9[741 + i]? = some (Cond.eq (.elem (.field (.string "BudgetJuryLaw" 139) "java/lang/String" "value" "[B") (.int (Int32.ofNat i))) (.int (Int32.ofInt (am_tb (31 : Nat) (i : Int))))) := by decide +kernel
theorem am_tz31 {args : Array Value} {s : State} {A : Nat → Prop} (h : (Jvm.Cond.and given_1 narrow_1).before args s = true) (hA : ∀ a : Nat, a < s.heap.size → ¬ A a) : ∃ k v : Nat, (Term.string "BudgetJuryLaw" 139).eval args s none [] s = some (.ref k) ∧ va_O "java/lang/String" k A s s.heap ∧ va_OF "java/lang/String" "coder" "B" (.int 0) k A s s.heap ∧ va_OF "java/lang/String" "value" "[B" (.ref v) k A s s.heap ∧ va_T .byte v 7 (fun i => .int (Int32.ofInt (am_tb (31 : Nat) (i : Int)))) A s s.heap :=
  am_txt (by decide) (am_f9 h 737 (by decide +kernel)) (am_f9 h 738 (by decide +kernel)) (am_f9 h 739 (by decide +kernel)) (am_f9 h 740 (by decide +kernel)) (fun i hi => am_f9 h _ (am_tx31 i hi)) hA
theorem am_tx32 : ∀ i : Nat, i < 8 → am_fl9[752 + i]? = some (Cond.eq (.elem (.field (.string "BudgetJuryLaw" 141) "java/lang/String" "value" "[B") (.int (Int32.ofNat i))) (.int (Int32.ofInt (am_tb (32 : Nat) (i : Int))))) := by decide +kernel
theorem am_tz32 {args : Array Value} {s : State} {A : Nat → Prop} (h : (Jvm.Cond.and given_1 narrow_1).before args s = true) (hA : ∀ a : Nat, a < s.heap.size → ¬ A a) : ∃ k v : Nat, (Term.string "BudgetJuryLaw" 141).eval args s none [] s = some (.ref k) ∧ va_O "java/lang/String" k A s s.heap ∧ va_OF "java/lang/String" "coder" "B" (.int 0) k A s s.heap ∧ va_OF "java/lang/String" "value" "[B" (.ref v) k A s s.heap ∧ va_T .byte v 8 (fun i => .int (Int32.ofInt (am_tb (32 : Nat) (i : Int)))) A s s.heap :=
  am_txt (by decide) (am_f9 h 748 (by decide +kernel)) (am_f9 h 749 (by decide +kernel)) (am_f9 h 750 (by decide +kernel)) (am_f9 h 751 (by decide +kernel)) (fun i hi => am_f9 h _ (am_tx32 i hi)) hA
theorem am_tx33 : ∀ i : Nat, i < 2 → am_fl9[764 + i]? = some (Cond.eq (.elem (.field (.string "BudgetJuryLaw" 143) "java/lang/String" "value" "[B") (.int (Int32.ofNat i))) (.int (Int32.ofInt (am_tb (33 : Nat) (i : Int))))) := by decide +kernel
theorem am_tz33 {args : Array Value} {s : State} {A : Nat → Prop} (h : (Jvm.Cond.and given_1 narrow_1).before args s = true) (hA : ∀ a : Nat, a < s.heap.size → ¬ A a) : ∃ k v : Nat, (Term.string "BudgetJuryLaw" 143).eval args s none [] s = some (.ref k) ∧ va_O "java/lang/String" k A s s.heap ∧ va_OF "java/lang/String" "coder" "B" (.int 0) k A s s.heap ∧ va_OF "java/lang/String" "value" "[B" (.ref v) k A s s.heap ∧ va_T .byte v 2 (fun i => .int (Int32.ofInt (am_tb (33 : Nat) (i : Int)))) A s s.heap :=
  am_txt (by decide) (am_f9 h 760 (by decide +kernel)) (am_f9 h 761 (by decide +kernel)) (am_f9 h 762 (by decide +kernel)) (am_f9 h 763 (by decide +kernel)) (fun i hi => am_f9 h _ (am_tx33 i hi)) hA
theorem am_tx34 : ∀ i : Nat, i < 5 → am_fl9[770 + i]? = some (Cond.eq (.elem (.field (.string "BudgetJuryLaw" 148) "java/lang/String" "value" "[B") (.int (Int32.ofNat i))) (.int (Int32.ofInt (am_tb (34 : Nat) (i : Int))))) := by decide +kernel
theorem am_tz34 {args : Array Value} {s : State} {A : Nat → Prop} (h : (Jvm.Cond.and given_1 narrow_1).before args s = true) (hA : ∀ a : Nat, a < s.heap.size → ¬ A a) : ∃ k v : Nat, (Term.string "BudgetJuryLaw" 148).eval args s none [] s = some (.ref k) ∧ va_O "java/lang/String" k A s s.heap ∧ va_OF "java/lang/String" "coder" "B" (.int 0) k A s s.heap ∧ va_OF "java/lang/String" "value" "[B" (.ref v) k A s s.heap ∧ va_T .byte v 5 (fun i => .int (Int32.ofInt (am_tb (34 : Nat) (i : Int)))) A s s.heap :=
  am_txt (by decide) (am_f9 h 766 (by decide +kernel)) (am_f9 h 767 (by decide +kernel)) (am_f9 h 768 (by decide +kernel)) (am_f9 h 769 (by decide +kernel)) (fun i hi => am_f9 h _ (am_tx34 i hi)) hA
theorem am_tx35 : ∀ i : Nat, i < 6 → am_fl9[779 + i]? = some (Cond.eq (.elem (.field (.string "BudgetJuryLaw" 150) "java/lang/String" "value" "[B") (.int (Int32.ofNat i))) (.int (Int32.ofInt (am_tb (35 : Nat) (i : Int))))) := by decide +kernel
theorem am_tz35 {args : Array Value} {s : State} {A : Nat → Prop} (h : (Jvm.Cond.and given_1 narrow_1).before args s = true) (hA : ∀ a : Nat, a < s.heap.size → ¬ A a) : ∃ k v : Nat, (Term.string "BudgetJuryLaw" 150).eval args s none [] s = some (.ref k) ∧ va_O "java/lang/String" k A s s.heap ∧ va_OF "java/lang/String" "coder" "B" (.int 0) k A s s.heap ∧ va_OF "java/lang/String" "value" "[B" (.ref v) k A s s.heap ∧ va_T .byte v 6 (fun i => .int (Int32.ofInt (am_tb (35 : Nat) (i : Int)))) A s s.heap :=
  am_txt (by decide) (am_f9 h 775 (by decide +kernel)) (am_f9 h 776 (by decide +kernel)) (am_f9 h 777 (by decide +kernel)) (am_f9 h 778 (by decide +kernel)) (fun i hi => am_f9 h _ (am_tx35 i hi)) hA
theorem am_sr0 : Cond.stringRef (am_own 0).1 (am_own 0).2.1 (am_own 0).2.2 ∈ lw_tbl := am_kin 1 131 rfl
theorem am_sr1 : Cond.stringRef (am_own 1).1 (am_own 1).2.1 (am_own 1).2.2 ∈ lw_tbl := am_kin 4 220 rfl
theorem am_sr2 : Cond.stringRef (am_own 2).1 (am_own 2).2.1 (am_own 2).2.2 ∈ lw_tbl := am_kin 6 93 rfl
theorem am_sr3 : Cond.stringRef (am_own 3).1 (am_own 3).2.1 (am_own 3).2.2 ∈ lw_tbl := am_kin 6 151 rfl
theorem am_sr4 : Cond.stringRef (am_own 4).1 (am_own 4).2.1 (am_own 4).2.2 ∈ lw_tbl := am_kin 6 152 rfl
theorem am_sr5 : Cond.stringRef (am_own 5).1 (am_own 5).2.1 (am_own 5).2.2 ∈ lw_tbl := am_kin 6 153 rfl
theorem am_sr6 : Cond.stringRef (am_own 6).1 (am_own 6).2.1 (am_own 6).2.2 ∈ lw_tbl := am_kin 6 154 rfl
theorem am_sr7 : Cond.stringRef (am_own 7).1 (am_own 7).2.1 (am_own 7).2.2 ∈ lw_tbl := am_kin 6 155 rfl
theorem am_sr8 : Cond.stringRef (am_own 8).1 (am_own 8).2.1 (am_own 8).2.2 ∈ lw_tbl := am_kin 6 156 rfl
theorem am_sr9 : Cond.stringRef (am_own 9).1 (am_own 9).2.1 (am_own 9).2.2 ∈ lw_tbl := am_kin 6 157 rfl
theorem am_sr10 : Cond.stringRef (am_own 10).1 (am_own 10).2.1 (am_own 10).2.2 ∈ lw_tbl := am_kin 6 158 rfl
theorem am_sr11 : Cond.stringRef (am_own 11).1 (am_own 11).2.1 (am_own 11).2.2 ∈ lw_tbl := am_kin 6 159 rfl
theorem am_sr12 : Cond.stringRef (am_own 12).1 (am_own 12).2.1 (am_own 12).2.2 ∈ lw_tbl := am_kin 6 160 rfl
theorem am_sr13 : Cond.stringRef (am_own 13).1 (am_own 13).2.1 (am_own 13).2.2 ∈ lw_tbl := am_kin 6 161 rfl
theorem am_sr14 : Cond.stringRef (am_own 14).1 (am_own 14).2.1 (am_own 14).2.2 ∈ lw_tbl := am_kin 6 162 rfl
theorem am_sr15 : Cond.stringRef (am_own 15).1 (am_own 15).2.1 (am_own 15).2.2 ∈ lw_tbl := am_kin 6 163 rfl
theorem am_sr16 : Cond.stringRef (am_own 16).1 (am_own 16).2.1 (am_own 16).2.2 ∈ lw_tbl := am_kin 6 164 rfl
theorem am_sr17 : Cond.stringRef (am_own 17).1 (am_own 17).2.1 (am_own 17).2.2 ∈ lw_tbl := am_kin 6 165 rfl
theorem am_sr18 : Cond.stringRef (am_own 18).1 (am_own 18).2.1 (am_own 18).2.2 ∈ lw_tbl := am_kin 6 166 rfl
theorem am_sr19 : Cond.stringRef (am_own 19).1 (am_own 19).2.1 (am_own 19).2.2 ∈ lw_tbl := am_kin 6 167 rfl
theorem am_sr20 : Cond.stringRef (am_own 20).1 (am_own 20).2.1 (am_own 20).2.2 ∈ lw_tbl := am_kin 6 168 rfl
theorem am_sr21 : Cond.stringRef (am_own 21).1 (am_own 21).2.1 (am_own 21).2.2 ∈ lw_tbl := am_kin 6 169 rfl
theorem am_sr22 : Cond.stringRef (am_own 22).1 (am_own 22).2.1 (am_own 22).2.2 ∈ lw_tbl := am_kin 5 176 rfl
theorem am_sr23 : Cond.stringRef (am_own 23).1 (am_own 23).2.1 (am_own 23).2.2 ∈ lw_tbl := am_kin 6 53 rfl
theorem am_sr24 : Cond.stringRef (am_own 24).1 (am_own 24).2.1 (am_own 24).2.2 ∈ lw_tbl := am_kin 6 54 rfl
theorem am_sr25 : Cond.stringRef (am_own 25).1 (am_own 25).2.1 (am_own 25).2.2 ∈ lw_tbl := am_kin 6 55 rfl
theorem am_sr26 : Cond.stringRef (am_own 26).1 (am_own 26).2.1 (am_own 26).2.2 ∈ lw_tbl := am_kin 6 56 rfl
theorem am_sr27 : Cond.stringRef (am_own 27).1 (am_own 27).2.1 (am_own 27).2.2 ∈ lw_tbl := am_kin 6 58 rfl
theorem am_sr28 : Cond.stringRef (am_own 28).1 (am_own 28).2.1 (am_own 28).2.2 ∈ lw_tbl := am_kin 6 59 rfl
theorem am_sr29 : Cond.stringRef (am_own 29).1 (am_own 29).2.1 (am_own 29).2.2 ∈ lw_tbl := am_kin 6 60 rfl
theorem am_sr30 : Cond.stringRef (am_own 30).1 (am_own 30).2.1 (am_own 30).2.2 ∈ lw_tbl := am_kin 6 61 rfl
theorem am_sr31 : Cond.stringRef (am_own 31).1 (am_own 31).2.1 (am_own 31).2.2 ∈ lw_tbl := am_kin 6 64 rfl
theorem am_sr32 : Cond.stringRef (am_own 32).1 (am_own 32).2.1 (am_own 32).2.2 ∈ lw_tbl := am_kin 6 65 rfl
theorem am_sr33 : Cond.stringRef (am_own 33).1 (am_own 33).2.1 (am_own 33).2.2 ∈ lw_tbl := am_kin 6 66 rfl
theorem am_sr34 : Cond.stringRef (am_own 34).1 (am_own 34).2.1 (am_own 34).2.2 ∈ lw_tbl := am_kin 6 67 rfl
theorem am_sr35 : Cond.stringRef (am_own 35).1 (am_own 35).2.1 (am_own 35).2.2 ∈ lw_tbl := am_kin 6 68 rfl
theorem am_mr0 : Cond.stringRef "BudgetJury" 71 "the tape is full" ∈ lw_tbl := am_kin 4 171 rfl
theorem am_me0 : am_fl9[616]? = some (Cond.exactly (.string "BudgetJury" 71) "java/lang/String") := by decide +kernel
theorem am_mr1 : Cond.stringRef "BudgetJury" 82 "not 0 to the number of bytes of the tape" ∈ lw_tbl := am_kin 4 155 rfl
theorem am_me1 : am_fl9[572]? = some (Cond.exactly (.string "BudgetJury" 82) "java/lang/String") := by decide +kernel
theorem am_mr2 : Cond.stringRef "BudgetJury" 109 "what is not 0 to 11" ∈ lw_tbl := am_kin 2 160 rfl
theorem am_me2 : am_fl9[344]? = some (Cond.exactly (.string "BudgetJury" 109) "java/lang/String") := by decide +kernel
theorem am_mr3 : Cond.stringRef "BudgetJury" 140 "no such ward" ∈ lw_tbl := am_kin 2 218 rfl
theorem am_me3 : am_fl9[367]? = some (Cond.exactly (.string "BudgetJury" 140) "java/lang/String") := by decide +kernel
theorem am_mr4 : Cond.stringRef "BudgetJury" 142 "what is not 0 to 3" ∈ lw_tbl := am_kin 2 219 rfl
theorem am_me4 : am_fl9[383]? = some (Cond.exactly (.string "BudgetJury" 142) "java/lang/String") := by decide +kernel
theorem am_mr5 : Cond.stringRef "BudgetJury" 151 "no such project" ∈ lw_tbl := am_kin 2 232 rfl
theorem am_me5 : am_fl9[405]? = some (Cond.exactly (.string "BudgetJury" 151) "java/lang/String") := by decide +kernel
theorem am_mr6 : Cond.stringRef "BudgetJury" 153 "what is not 0 to 7" ∈ lw_tbl := am_kin 2 233 rfl
theorem am_me6 : am_fl9[424]? = some (Cond.exactly (.string "BudgetJury" 153) "java/lang/String") := by decide +kernel
theorem am_mr7 : Cond.stringRef "BudgetJury" 164 "no such voter" ∈ lw_tbl := am_kin 3 71 rfl
theorem am_me7 : am_fl9[446]? = some (Cond.exactly (.string "BudgetJury" 164) "java/lang/String") := by decide +kernel
theorem am_mr8 : Cond.stringRef "BudgetJury" 169 "no such voter or no such project" ∈ lw_tbl := am_kin 3 84 rfl
theorem am_me8 : am_fl9[463]? = some (Cond.exactly (.string "BudgetJury" 169) "java/lang/String") := by decide +kernel
theorem am_mr9 : Cond.stringRef "BudgetJury" 193 "coins are not 1 to 999" ∈ lw_tbl := am_kin 6 183 rfl
theorem am_me9 : am_fl9[975]? = some (Cond.exactly (.string "BudgetJury" 193) "java/lang/String") := by decide +kernel
theorem am_mr10 : Cond.stringRef "BudgetJury" 203 "the budget is not 0 to 9999" ∈ lw_tbl := am_kin 6 189 rfl
theorem am_me10 : am_fl9[1001]? = some (Cond.exactly (.string "BudgetJury" 203) "java/lang/String") := by decide +kernel
theorem am_mr11 : Cond.stringRef "BudgetJury" 208 "the project is open" ∈ lw_tbl := am_kin 6 194 rfl
theorem am_me11 : am_fl9[1032]? = some (Cond.exactly (.string "BudgetJury" 208) "java/lang/String") := by decide +kernel
theorem am_mr12 : Cond.stringRef "BudgetJury" 216 "years are not 1 to 60" ∈ lw_tbl := am_kin 3 129 rfl
theorem am_me12 : am_fl9[499]? = some (Cond.exactly (.string "BudgetJury" 216) "java/lang/String") := by decide +kernel
theorem am_mr13 : Cond.stringRef "BudgetJury" 224 "what is not 6 to 10" ∈ lw_tbl := am_kin 3 180 rfl
theorem am_me13 : am_fl9[524]? = some (Cond.exactly (.string "BudgetJury" 224) "java/lang/String") := by decide +kernel
theorem am_mr14 : Cond.stringRef "BudgetJury" 226 "years are not 1 to 20" ∈ lw_tbl := am_kin 3 185 rfl
theorem am_me14 : am_fl9[547]? = some (Cond.exactly (.string "BudgetJury" 226) "java/lang/String") := by decide +kernel
theorem am_eDigitOnes : ∀ i : Nat, i < 100 → am_fl9[14 + i]? = some (Cond.eq (.elem (.static "java/lang/Integer" "DigitOnes" "[B") (.int (Int32.ofNat i))) (.int (Int32.ofInt (48 + (i : Int) % 10)))) := by decide +kernel
theorem am_eDigitTens : ∀ i : Nat, i < 100 → am_fl9[117 + i]? = some (Cond.eq (.elem (.static "java/lang/Integer" "DigitTens" "[B") (.int (Int32.ofNat i))) (.int (Int32.ofInt (48 + (i : Int) / 10)))) := by decide +kernel
theorem am_hW {s : State} {args : Array Value} (hts : ∀ w ∈ lw_tbl, w.before args s = true) : ∀ w ∈ am_W, w.before args s = true := by
  intro w hw
  rcases List.mem_append.mp (List.mem_filter.mp hw).1 with h | h
  · simp only [am_sb, List.mem_cons, List.not_mem_nil, or_false] at h
    rcases h with rfl | rfl | rfl | rfl
    · exact am_sel_priv (by decide) (hts _ (am_kin 6 73 rfl)) (hts _ (am_kin 5 190 rfl)) (hts _ (am_kin 5 191 rfl)) (hts _ (am_kin 6 213 rfl))
    · exact am_sel_priv (by decide) (hts _ (am_kin 6 73 rfl)) (hts _ (am_kin 5 194 rfl)) (hts _ (am_kin 5 195 rfl)) (hts _ (am_kin 6 214 rfl))
    · exact am_sel_priv (by decide) (hts _ (am_kin 6 73 rfl)) (hts _ (am_kin 5 228 rfl)) (hts _ (am_kin 5 229 rfl)) (hts _ (am_kin 6 215 rfl))
    · exact am_sel_priv (by decide) (hts _ (am_kin 6 73 rfl)) (hts _ (am_kin 5 232 rfl)) (hts _ (am_kin 5 233 rfl)) (hts _ (am_kin 6 216 rfl))
  · exact hts w h
section
variable {b L : Nat} {xs : Nat → Int32} {s : State}
theorem am_world (hts : ∀ w ∈ lw_tbl, w.before #[Value.ref b] s = true) (h : (Jvm.Cond.and given_1 narrow_1).before #[Value.ref b] s = true) (hX : va_X b L xs s s.heap) (hbl : b < s.heap.size) (hL : L ≤ 260) : ∃ G : am_En, eB G = 0 ∧ eS G = s.heap.size ∧ eb G = b ∧ eL G = L ∧ (∀ j, ex G j = xs j) ∧ am_WK G s s.heap := by
  have hA : ∀ a : Nat, a < s.heap.size → ¬ (fun q => s.heap.size ≤ q) a := fun a ha => Nat.not_le.mpr ha
  have hW : ∀ w ∈ am_W, w.before #[Value.ref b] s = true := am_hW hts
  have hd1 := va_Tof (tm := .static "java/lang/Integer" "DigitOnes" "[B") (ty := .byte) (N := 100) (f := fun i => .int (Int32.ofInt (48 + (i : Int) % 10))) (A := fun q => s.heap.size ≤ q) (by decide) (am_f9 h 12 (by decide +kernel)) (va_eqv (am_f9 h 13 (by decide +kernel) : (Cond.eq (.length (.static "java/lang/Integer" "DigitOnes" "[B")) (.int (Int32.ofNat 100))).before #[Value.ref b] s = true) rfl) (fun j hj => va_eqv (am_f9 h _ (am_eDigitOnes j hj)) rfl) hA
  have hd2 := va_Tof (tm := .static "java/lang/Integer" "DigitTens" "[B") (ty := .byte) (N := 100) (f := fun i => .int (Int32.ofInt (48 + (i : Int) / 10))) (A := fun q => s.heap.size ≤ q) (by decide) (am_f9 h 115 (by decide +kernel)) (va_eqv (am_f9 h 116 (by decide +kernel) : (Cond.eq (.length (.static "java/lang/Integer" "DigitTens" "[B")) (.int (Int32.ofNat 100))).before #[Value.ref b] s = true) rfl) (fun j hj => va_eqv (am_f9 h _ (am_eDigitTens j hj)) rfl) hA
  have h0 : ∀ j : Nat, ∃ kv : Nat × Nat, (j < 36 → (Term.string (am_own j).1 (am_own j).2.1).eval #[Value.ref b] s none [] s = some (.ref kv.1) ∧ va_O "java/lang/String" kv.1 (fun q => s.heap.size ≤ q) s s.heap ∧ va_OF "java/lang/String" "coder" "B" (.int 0) kv.1 (fun q => s.heap.size ≤ q) s s.heap ∧ va_OF "java/lang/String" "value" "[B" (.ref kv.2) kv.1 (fun q => s.heap.size ≤ q) s s.heap ∧ va_T .byte kv.2 (am_nth am_tx j []).length (fun i => .int (Int32.ofInt (am_tb (j : Int) (i : Int)))) (fun q => s.heap.size ≤ q) s s.heap) ∧
      (j = 36 → (Term.static "java/lang/Integer" "DigitOnes" "[B").eval #[Value.ref b] s none [] s = some (.ref kv.2) ∧ va_T .byte kv.2 100 (fun i => .int (Int32.ofInt (48 + (i : Int) % 10))) (fun q => s.heap.size ≤ q) s s.heap) ∧
      (j = 37 → (Term.static "java/lang/Integer" "DigitTens" "[B").eval #[Value.ref b] s none [] s = some (.ref kv.2) ∧ va_T .byte kv.2 100 (fun i => .int (Int32.ofInt (48 + (i : Int) / 10))) (fun q => s.heap.size ≤ q) s s.heap) := by
    intro j
    match j with
    | 0 =>
      obtain ⟨k, v, q⟩ := am_tz0 h hA
      exact ⟨(k, v), fun _ => q, fun h => absurd h (by decide), fun h => absurd h (by decide)⟩
    | 1 =>
      obtain ⟨k, v, q⟩ := am_tz1 h hA
      exact ⟨(k, v), fun _ => q, fun h => absurd h (by decide), fun h => absurd h (by decide)⟩
    | 2 =>
      obtain ⟨k, v, q⟩ := am_tz2 h hA
      exact ⟨(k, v), fun _ => q, fun h => absurd h (by decide), fun h => absurd h (by decide)⟩
    | 3 =>
      obtain ⟨k, v, q⟩ := am_tz3 h hA
      exact ⟨(k, v), fun _ => q, fun h => absurd h (by decide), fun h => absurd h (by decide)⟩
    | 4 =>
      obtain ⟨k, v, q⟩ := am_tz4 h hA
      exact ⟨(k, v), fun _ => q, fun h => absurd h (by decide), fun h => absurd h (by decide)⟩
    | 5 =>
      obtain ⟨k, v, q⟩ := am_tz5 h hA
      exact ⟨(k, v), fun _ => q, fun h => absurd h (by decide), fun h => absurd h (by decide)⟩
    | 6 =>
      obtain ⟨k, v, q⟩ := am_tz6 h hA
      exact ⟨(k, v), fun _ => q, fun h => absurd h (by decide), fun h => absurd h (by decide)⟩
    | 7 =>
      obtain ⟨k, v, q⟩ := am_tz7 h hA
      exact ⟨(k, v), fun _ => q, fun h => absurd h (by decide), fun h => absurd h (by decide)⟩
    | 8 =>
      obtain ⟨k, v, q⟩ := am_tz8 h hA
      exact ⟨(k, v), fun _ => q, fun h => absurd h (by decide), fun h => absurd h (by decide)⟩
    | 9 =>
      obtain ⟨k, v, q⟩ := am_tz9 h hA
      exact ⟨(k, v), fun _ => q, fun h => absurd h (by decide), fun h => absurd h (by decide)⟩
    | 10 =>
      obtain ⟨k, v, q⟩ := am_tz10 h hA
      exact ⟨(k, v), fun _ => q, fun h => absurd h (by decide), fun h => absurd h (by decide)⟩
    | 11 =>
      obtain ⟨k, v, q⟩ := am_tz11 h hA
      exact ⟨(k, v), fun _ => q, fun h => absurd h (by decide), fun h => absurd h (by decide)⟩
    | 12 =>
      obtain ⟨k, v, q⟩ := am_tz12 h hA
      exact ⟨(k, v), fun _ => q, fun h => absurd h (by decide), fun h => absurd h (by decide)⟩
    | 13 =>
      obtain ⟨k, v, q⟩ := am_tz13 h hA
      exact ⟨(k, v), fun _ => q, fun h => absurd h (by decide), fun h => absurd h (by decide)⟩
    | 14 =>
      obtain ⟨k, v, q⟩ := am_tz14 h hA
      exact ⟨(k, v), fun _ => q, fun h => absurd h (by decide), fun h => absurd h (by decide)⟩
    | 15 =>
      obtain ⟨k, v, q⟩ := am_tz15 h hA
      exact ⟨(k, v), fun _ => q, fun h => absurd h (by decide), fun h => absurd h (by decide)⟩
    | 16 =>
      obtain ⟨k, v, q⟩ := am_tz16 h hA
      exact ⟨(k, v), fun _ => q, fun h => absurd h (by decide), fun h => absurd h (by decide)⟩
    | 17 =>
      obtain ⟨k, v, q⟩ := am_tz17 h hA
      exact ⟨(k, v), fun _ => q, fun h => absurd h (by decide), fun h => absurd h (by decide)⟩
    | 18 =>
      obtain ⟨k, v, q⟩ := am_tz18 h hA
      exact ⟨(k, v), fun _ => q, fun h => absurd h (by decide), fun h => absurd h (by decide)⟩
    | 19 =>
      obtain ⟨k, v, q⟩ := am_tz19 h hA
      exact ⟨(k, v), fun _ => q, fun h => absurd h (by decide), fun h => absurd h (by decide)⟩
    | 20 =>
      obtain ⟨k, v, q⟩ := am_tz20 h hA
      exact ⟨(k, v), fun _ => q, fun h => absurd h (by decide), fun h => absurd h (by decide)⟩
    | 21 =>
      obtain ⟨k, v, q⟩ := am_tz21 h hA
      exact ⟨(k, v), fun _ => q, fun h => absurd h (by decide), fun h => absurd h (by decide)⟩
    | 22 =>
      obtain ⟨k, v, q⟩ := am_tz22 h hA
      exact ⟨(k, v), fun _ => q, fun h => absurd h (by decide), fun h => absurd h (by decide)⟩
    | 23 =>
      obtain ⟨k, v, q⟩ := am_tz23 h hA
      exact ⟨(k, v), fun _ => q, fun h => absurd h (by decide), fun h => absurd h (by decide)⟩
    | 24 =>
      obtain ⟨k, v, q⟩ := am_tz24 h hA
      exact ⟨(k, v), fun _ => q, fun h => absurd h (by decide), fun h => absurd h (by decide)⟩
    | 25 =>
      obtain ⟨k, v, q⟩ := am_tz25 h hA
      exact ⟨(k, v), fun _ => q, fun h => absurd h (by decide), fun h => absurd h (by decide)⟩
    | 26 =>
      obtain ⟨k, v, q⟩ := am_tz26 h hA
      exact ⟨(k, v), fun _ => q, fun h => absurd h (by decide), fun h => absurd h (by decide)⟩
    | 27 =>
      obtain ⟨k, v, q⟩ := am_tz27 h hA
      exact ⟨(k, v), fun _ => q, fun h => absurd h (by decide), fun h => absurd h (by decide)⟩
    | 28 =>
      obtain ⟨k, v, q⟩ := am_tz28 h hA
      exact ⟨(k, v), fun _ => q, fun h => absurd h (by decide), fun h => absurd h (by decide)⟩
    | 29 =>
      obtain ⟨k, v, q⟩ := am_tz29 h hA
      exact ⟨(k, v), fun _ => q, fun h => absurd h (by decide), fun h => absurd h (by decide)⟩
    | 30 =>
      obtain ⟨k, v, q⟩ := am_tz30 h hA
      exact ⟨(k, v), fun _ => q, fun h => absurd h (by decide), fun h => absurd h (by decide)⟩
    | 31 =>
      obtain ⟨k, v, q⟩ := am_tz31 h hA
      exact ⟨(k, v), fun _ => q, fun h => absurd h (by decide), fun h => absurd h (by decide)⟩
    | 32 =>
      obtain ⟨k, v, q⟩ := am_tz32 h hA
      exact ⟨(k, v), fun _ => q, fun h => absurd h (by decide), fun h => absurd h (by decide)⟩
    | 33 =>
      obtain ⟨k, v, q⟩ := am_tz33 h hA
      exact ⟨(k, v), fun _ => q, fun h => absurd h (by decide), fun h => absurd h (by decide)⟩
    | 34 =>
      obtain ⟨k, v, q⟩ := am_tz34 h hA
      exact ⟨(k, v), fun _ => q, fun h => absurd h (by decide), fun h => absurd h (by decide)⟩
    | 35 =>
      obtain ⟨k, v, q⟩ := am_tz35 h hA
      exact ⟨(k, v), fun _ => q, fun h => absurd h (by decide), fun h => absurd h (by decide)⟩
    | 36 =>
      obtain ⟨v, q⟩ := hd1
      exact ⟨(0, v), fun h => absurd h (by decide), fun _ => q, fun h => absurd h (by decide)⟩
    | 37 =>
      obtain ⟨v, q⟩ := hd2
      exact ⟨(0, v), fun h => absurd h (by decide), fun h => absurd h (by decide), fun _ => q⟩
    | j + 38 => exact ⟨(0, 0), fun h => absurd h (by omega), fun h => absurd h (by omega), fun h => absurd h (by omega)⟩
  obtain ⟨kv, hkv⟩ := Classical.axiomOfChoice h0
  have h1 : ∀ c : Nat, ∃ d : ClassId × (Nat → Nat), ∀ q : vw_C, vwCl[c]? = some q → u_Kn s q.1 q.2.1 q.2.2 d.1 d.2 := by
    intro c
    match c with
    | 0 =>
      obtain ⟨cC, iS, hk⟩ := u_known (C := (am_q 1).1) (T := (am_q 1).2.1) (N := (am_q 1).2.2) hW am_uw1 (hW _ am_k293)
      exact ⟨(cC, iS), fun q hq => by cases hq; exact hk⟩
    | 1 =>
      obtain ⟨cC, iS, hk⟩ := u_known (C := (am_q 2).1) (T := (am_q 2).2.1) (N := (am_q 2).2.2) hW am_uw2 (hW _ am_k267)
      exact ⟨(cC, iS), fun q hq => by cases hq; exact hk⟩
    | 2 =>
      obtain ⟨cC, iS, hk⟩ := u_known (C := (am_q 3).1) (T := (am_q 3).2.1) (N := (am_q 3).2.2) hW am_uw3 (hW _ am_k322)
      exact ⟨(cC, iS), fun q hq => by cases hq; exact hk⟩
    | 3 =>
      obtain ⟨cC, iS, hk⟩ := u_known (C := (am_q 4).1) (T := (am_q 4).2.1) (N := (am_q 4).2.2) hW am_uw4 (hW _ am_k92)
      exact ⟨(cC, iS), fun q hq => by cases hq; exact hk⟩
    | 4 =>
      obtain ⟨cC, iS, hk⟩ := u_known (C := (am_q 5).1) (T := (am_q 5).2.1) (N := (am_q 5).2.2) hW am_uw5 (hW _ am_k180)
      exact ⟨(cC, iS), fun q hq => by cases hq; exact hk⟩
    | 5 =>
      obtain ⟨cC, iS, hk⟩ := u_known (C := (am_q 6).1) (T := (am_q 6).2.1) (N := (am_q 6).2.2) hW am_uw6 (hW _ am_k84)
      exact ⟨(cC, iS), fun q hq => by cases hq; exact hk⟩
    | 6 =>
      obtain ⟨cC, iS, hk⟩ := u_known (C := (am_q 7).1) (T := (am_q 7).2.1) (N := (am_q 7).2.2) hW am_uw7 (hW _ am_k828)
      exact ⟨(cC, iS), fun q hq => by cases hq; exact hk⟩
    | 7 =>
      obtain ⟨cC, iS, hk⟩ := u_known (C := (am_q 8).1) (T := (am_q 8).2.1) (N := (am_q 8).2.2) hW am_uw8 (hW _ am_k1327)
      exact ⟨(cC, iS), fun q hq => by cases hq; exact hk⟩
    | 8 =>
      obtain ⟨cC, iS, hk⟩ := u_known (C := (am_q 9).1) (T := (am_q 9).2.1) (N := (am_q 9).2.2) hW am_uw9 (hW _ am_k1353)
      exact ⟨(cC, iS), fun q hq => by cases hq; exact hk⟩
    | c + 9 => exact ⟨(0, fun _ => 0), fun q hq => by simp [vwCl] at hq⟩
  obtain ⟨dd, hdd⟩ := Classical.axiomOfChoice h1
  obtain ⟨ci, ki, mi, ai1, ai2, ai3⟩ := Cond.arrayClass_spec (hW _ am_k178)
  obtain ⟨cy, ky, my, ay1, ay2, ay3⟩ := Cond.arrayClass_spec (hW _ am_k177)
  obtain ⟨cj, kj, mj, aj1, aj2, aj3⟩ := Cond.arrayClass_spec (hW _ am_k265)
  obtain ⟨cz, kz, mz, az1, az2, az3⟩ := Cond.arrayClass_spec (hW _ am_k913)
  have aoq : (Cond.arrayOver (.array .int)).before #[Value.ref b] s = true := hts _ (am_kin 4 89 rfl)
  obtain ⟨mq, cq, kq, aq0, aq2, aq3, aq1⟩ := Cond.arrayOver_specA aoq
  obtain rfl : ci = mq := Option.some.inj (ai1.symm.trans aq0)
  have aor : (Cond.arrayOver (.array .boolean)).before #[Value.ref b] s = true := hts _ (am_kin 4 91 rfl)
  obtain ⟨mr, cr, kr, ar0, ar2, ar3, ar1⟩ := Cond.arrayOver_specA aor
  obtain rfl : cz = mr := Option.some.inj (az1.symm.trans ar0)
  refine ⟨((0, b, s.heap.size), (fun j => (kv j).1, fun j => (kv j).2), (fun c => (dd c).1, fun c => (dd c).2), ((ci, cy, cj), (cz, cq, cr)), (L, xs)), rfl, rfl, rfl, rfl, fun _ => rfl, ⟨⟨hdd, fun k q hq => ?_⟩, fun w hw hn => va_Nw.of (am_isN_ot hn) (hts w hw), fun j hj => ?_, fun q hq => ?_, fun x k a1 a2 a3 a4 a5 => ?_, ⟨kq, ki, aq2, aq3, ai2⟩, ⟨kr, kz, ar2, ar3, az2⟩, over_moved (Vm.Alike.refl _) aoq, over_moved (Vm.Alike.refl _) aor⟩, fun j hj => ((hkv j).1 hj).2, ⟨⟨?_, ((hkv 36).2.1 rfl).2⟩, ⟨?_, ((hkv 37).2.2 rfl).2⟩, ?_, ?_, ?_, ?_⟩, hX, hbl, Nat.le_refl _, hL⟩
  · match k, hq with
    | 0, hq => cases hq; exact ⟨fun n z => ⟨fun k h => (by cases h), ki, ai2, mi, ai3⟩, ai1⟩
    | 1, hq => cases hq; exact ⟨fun n z => ⟨fun k h => (by cases h), ky, ay2, my, ay3⟩, ay1⟩
    | 2, hq => cases hq; exact ⟨fun n z => ⟨fun k h => (by cases h), kj, aj2, mj, aj3⟩, aj1⟩
    | 3, hq => cases hq; exact ⟨fun n z => ⟨fun k h => (by cases h), kz, az2, mz, az3⟩, az1⟩
    | 4, hq => cases hq; exact ⟨fun n z => ⟨fun k h => (by cases h), kq, aq2, _, aq3⟩, aq1⟩
    | 5, hq => cases hq; exact ⟨fun n z => ⟨fun k h => (by cases h), kr, ar2, _, ar3⟩, ar1⟩
    | k + 6, hq => simp at hq
  · have he := ((hkv j).1 hj).1
    match j, hj, he with
    | 0, _, he => exact vk_R.of (hts _ am_sr0) he
    | 1, _, he => exact vk_R.of (hts _ am_sr1) he
    | 2, _, he => exact vk_R.of (hts _ am_sr2) he
    | 3, _, he => exact vk_R.of (hts _ am_sr3) he
    | 4, _, he => exact vk_R.of (hts _ am_sr4) he
    | 5, _, he => exact vk_R.of (hts _ am_sr5) he
    | 6, _, he => exact vk_R.of (hts _ am_sr6) he
    | 7, _, he => exact vk_R.of (hts _ am_sr7) he
    | 8, _, he => exact vk_R.of (hts _ am_sr8) he
    | 9, _, he => exact vk_R.of (hts _ am_sr9) he
    | 10, _, he => exact vk_R.of (hts _ am_sr10) he
    | 11, _, he => exact vk_R.of (hts _ am_sr11) he
    | 12, _, he => exact vk_R.of (hts _ am_sr12) he
    | 13, _, he => exact vk_R.of (hts _ am_sr13) he
    | 14, _, he => exact vk_R.of (hts _ am_sr14) he
    | 15, _, he => exact vk_R.of (hts _ am_sr15) he
    | 16, _, he => exact vk_R.of (hts _ am_sr16) he
    | 17, _, he => exact vk_R.of (hts _ am_sr17) he
    | 18, _, he => exact vk_R.of (hts _ am_sr18) he
    | 19, _, he => exact vk_R.of (hts _ am_sr19) he
    | 20, _, he => exact vk_R.of (hts _ am_sr20) he
    | 21, _, he => exact vk_R.of (hts _ am_sr21) he
    | 22, _, he => exact vk_R.of (hts _ am_sr22) he
    | 23, _, he => exact vk_R.of (hts _ am_sr23) he
    | 24, _, he => exact vk_R.of (hts _ am_sr24) he
    | 25, _, he => exact vk_R.of (hts _ am_sr25) he
    | 26, _, he => exact vk_R.of (hts _ am_sr26) he
    | 27, _, he => exact vk_R.of (hts _ am_sr27) he
    | 28, _, he => exact vk_R.of (hts _ am_sr28) he
    | 29, _, he => exact vk_R.of (hts _ am_sr29) he
    | 30, _, he => exact vk_R.of (hts _ am_sr30) he
    | 31, _, he => exact vk_R.of (hts _ am_sr31) he
    | 32, _, he => exact vk_R.of (hts _ am_sr32) he
    | 33, _, he => exact vk_R.of (hts _ am_sr33) he
    | 34, _, he => exact vk_R.of (hts _ am_sr34) he
    | 35, _, he => exact vk_R.of (hts _ am_sr35) he
    | j + 36, hj, _ => exact absurd hj (by omega)
  · simp only [am_msg, List.mem_cons, List.not_mem_nil, or_false] at hq
    rcases hq with rfl | rfl | rfl | rfl | rfl | rfl | rfl | rfl | rfl | rfl | rfl | rfl | rfl | rfl | rfl
    · obtain ⟨a, c2, cell, k2, q1, -⟩ := Cond.exactly_spec (args := #[Value.ref b]) (first := s) (o := none) (s := s) (idx := []) (am_f9 h _ am_me0)
      exact ⟨a, vk_R.of (hts _ am_mr0) q1⟩
    · obtain ⟨a, c2, cell, k2, q1, -⟩ := Cond.exactly_spec (args := #[Value.ref b]) (first := s) (o := none) (s := s) (idx := []) (am_f9 h _ am_me1)
      exact ⟨a, vk_R.of (hts _ am_mr1) q1⟩
    · obtain ⟨a, c2, cell, k2, q1, -⟩ := Cond.exactly_spec (args := #[Value.ref b]) (first := s) (o := none) (s := s) (idx := []) (am_f9 h _ am_me2)
      exact ⟨a, vk_R.of (hts _ am_mr2) q1⟩
    · obtain ⟨a, c2, cell, k2, q1, -⟩ := Cond.exactly_spec (args := #[Value.ref b]) (first := s) (o := none) (s := s) (idx := []) (am_f9 h _ am_me3)
      exact ⟨a, vk_R.of (hts _ am_mr3) q1⟩
    · obtain ⟨a, c2, cell, k2, q1, -⟩ := Cond.exactly_spec (args := #[Value.ref b]) (first := s) (o := none) (s := s) (idx := []) (am_f9 h _ am_me4)
      exact ⟨a, vk_R.of (hts _ am_mr4) q1⟩
    · obtain ⟨a, c2, cell, k2, q1, -⟩ := Cond.exactly_spec (args := #[Value.ref b]) (first := s) (o := none) (s := s) (idx := []) (am_f9 h _ am_me5)
      exact ⟨a, vk_R.of (hts _ am_mr5) q1⟩
    · obtain ⟨a, c2, cell, k2, q1, -⟩ := Cond.exactly_spec (args := #[Value.ref b]) (first := s) (o := none) (s := s) (idx := []) (am_f9 h _ am_me6)
      exact ⟨a, vk_R.of (hts _ am_mr6) q1⟩
    · obtain ⟨a, c2, cell, k2, q1, -⟩ := Cond.exactly_spec (args := #[Value.ref b]) (first := s) (o := none) (s := s) (idx := []) (am_f9 h _ am_me7)
      exact ⟨a, vk_R.of (hts _ am_mr7) q1⟩
    · obtain ⟨a, c2, cell, k2, q1, -⟩ := Cond.exactly_spec (args := #[Value.ref b]) (first := s) (o := none) (s := s) (idx := []) (am_f9 h _ am_me8)
      exact ⟨a, vk_R.of (hts _ am_mr8) q1⟩
    · obtain ⟨a, c2, cell, k2, q1, -⟩ := Cond.exactly_spec (args := #[Value.ref b]) (first := s) (o := none) (s := s) (idx := []) (am_f9 h _ am_me9)
      exact ⟨a, vk_R.of (hts _ am_mr9) q1⟩
    · obtain ⟨a, c2, cell, k2, q1, -⟩ := Cond.exactly_spec (args := #[Value.ref b]) (first := s) (o := none) (s := s) (idx := []) (am_f9 h _ am_me10)
      exact ⟨a, vk_R.of (hts _ am_mr10) q1⟩
    · obtain ⟨a, c2, cell, k2, q1, -⟩ := Cond.exactly_spec (args := #[Value.ref b]) (first := s) (o := none) (s := s) (idx := []) (am_f9 h _ am_me11)
      exact ⟨a, vk_R.of (hts _ am_mr11) q1⟩
    · obtain ⟨a, c2, cell, k2, q1, -⟩ := Cond.exactly_spec (args := #[Value.ref b]) (first := s) (o := none) (s := s) (idx := []) (am_f9 h _ am_me12)
      exact ⟨a, vk_R.of (hts _ am_mr12) q1⟩
    · obtain ⟨a, c2, cell, k2, q1, -⟩ := Cond.exactly_spec (args := #[Value.ref b]) (first := s) (o := none) (s := s) (idx := []) (am_f9 h _ am_me13)
      exact ⟨a, vk_R.of (hts _ am_mr13) q1⟩
    · obtain ⟨a, c2, cell, k2, q1, -⟩ := Cond.exactly_spec (args := #[Value.ref b]) (first := s) (o := none) (s := s) (idx := []) (am_f9 h _ am_me14)
      exact ⟨a, vk_R.of (hts _ am_mr14) q1⟩
  · obtain rfl : k = 1 := by omega
    match x, a1, a2, a5 with
    | 1, _, _, h9 => exact absurd rfl h9
    | 2, _, _, _ => exact va_Nc.of (am_f9 h 226 (by decide +kernel))
    | 3, _, _, _ => exact va_Nc.of (am_f9 h 227 (by decide +kernel))
  · exact va_Zref (hts _ (am_kin 6 42 rfl)) (hts _ (am_kin 1 13 rfl)) ((hkv 36).2.1 rfl).1 hA
  · exact va_Zref (hts _ (am_kin 6 44 rfl)) (hts _ (am_kin 1 13 rfl)) ((hkv 37).2.2 rfl).1 hA
  · exact va_Zof (hts _ (am_kin 1 141 rfl)) (hts _ (am_kin 1 3 rfl)) (va_eqi (am_f9 h 4 (by decide +kernel))) hA
  · exact va_Zqof (hts _ (am_kin 1 157 rfl)) (hts _ (am_kin 1 10 rfl)) (am_f9 h 5 (by decide +kernel)) hA
  · exact vx_Zqof (hts _ (am_kin 2 146 rfl)) (hts _ (am_kin 1 20 rfl)) (am_f9 h 9 (by decide +kernel)) hA
  · exact vx_Zqof (hts _ (am_kin 2 148 rfl)) (hts _ (am_kin 1 20 rfl)) (am_f9 h 10 (by decide +kernel)) hA
end
