/-! ===== the step: a row that shows what it has to, and what the abstract machine wants of it, is a step of the real machine ===== -/
def am_isref : Option FieldType → Bool
  | some (.object _) => true
  | some (.array _) => true
  | _ => false
def am_tsb (pc : Nat) (offs : Array Int) (lo : Int) (zs : List (Int × Nat)) : Bool := Nat.beq zs.length offs.size && ((List.range offs.size).all fun k => match offs[k]?, zs[k]? with
  | some off, some (v, t) => decide (v = lo + (k : Int)) && decide ((pc : Int) + off = (t : Int))
  | _, _ => false)
def am_lsb (pc : Nat) (ps : List (Int × Int)) (zs : List (Int × Nat)) : Bool := Nat.beq zs.length ps.length && ((List.range ps.length).all fun k => match ps[k]?, zs[k]? with
  | some (v, off), some (v', t) => decide (v = v') && decide ((pc : Int) + off = (t : Int))
  | _, _ => false)
def am_ci (m pc ln r1 r2 r3 : Nat) (zs : List (Int × Nat)) : Instr → Bool
  | .iconst n => Nat.beq ln 1 && (decide (-128 ≤ n) && decide (n < 128))
  | .bipush n => Nat.beq ln 2 && (decide (-128 ≤ n) && decide (n < 128))
  | .sipush n => Nat.beq ln 3 && (decide (-32768 ≤ n) && decide (n < 32768))
  | .lconst _ => Nat.beq ln 1
  | .dconst n => Nat.beq ln 1 && decide (n = 0)
  | .iload _ => Nat.beq ln 2
  | .lload _ => Nat.beq ln 2
  | .dload _ => Nat.beq ln 2
  | .aload _ => Nat.beq ln 2
  | .iload_n _ => Nat.beq ln 1
  | .lload_n _ => Nat.beq ln 1
  | .aload_n _ => Nat.beq ln 1
  | .istore i => Nat.beq ln 2 && Nat.blt i (am_ml m)
  | .astore i => Nat.beq ln 2 && Nat.blt i (am_ml m)
  | .istore_n i => Nat.beq ln 1 && Nat.blt i.val (am_ml m)
  | .astore_n i => Nat.beq ln 1 && Nat.blt i.val (am_ml m)
  | .lstore i => Nat.beq ln 2 && Nat.blt (i + 1) (am_ml m)
  | .dstore i => Nat.beq ln 2 && Nat.blt (i + 1) (am_ml m)
  | .dload_n _ => Nat.beq ln 1
  | .aconst_null => Nat.beq ln 1
  | .land => Nat.beq ln 1
  | .dmul => Nat.beq ln 1
  | .dsub => Nat.beq ln 1
  | .aastore => Nat.beq ln 1
  | .ifnull off => Nat.beq ln 3 && decide ((pc : Int) + off = (r1 : Int))
  | .ifnonnull off => Nat.beq ln 3 && decide ((pc : Int) + off = (r1 : Int))
  | .checkcast _ => Nat.beq ln 3 && (Nat.beq r1 20 || (Nat.beq r1 21 || Nat.beq r1 23))
  | .anewarray _ => Nat.beq ln 3 && (Nat.beq r1 24 || Nat.beq r1 25)
  | .multianewarray _ dm => Nat.beq ln 4 && (Nat.beq dm 2 && ((Nat.beq r1 24 && Nat.beq r2 20) || (Nat.beq r1 25 && Nat.beq r2 23)))
  | .lstore_n i => Nat.beq ln 1 && Nat.blt (i.val + 1) (am_ml m)
  | .iinc i n => Nat.beq ln 3 && (Nat.blt i (am_ml m) && (decide (-32768 ≤ n) && decide (n < 32768)))
  | .iadd => Nat.beq ln 1
  | .isub => Nat.beq ln 1
  | .imul => Nat.beq ln 1
  | .ineg => Nat.beq ln 1
  | .iand => Nat.beq ln 1
  | .ior => Nat.beq ln 1
  | .ixor => Nat.beq ln 1
  | .ishl => Nat.beq ln 1
  | .ishr => Nat.beq ln 1
  | .iushr => Nat.beq ln 1
  | .i2l => Nat.beq ln 1
  | .i2b => Nat.beq ln 1
  | .i2c => Nat.beq ln 1
  | .i2d => Nat.beq ln 1
  | .l2i => Nat.beq ln 1
  | .ladd => Nat.beq ln 1
  | .lsub => Nat.beq ln 1
  | .lmul => Nat.beq ln 1
  | .lcmp => Nat.beq ln 1
  | .ddiv => Nat.beq ln 1
  | .dup => Nat.beq ln 1
  | .pop => Nat.beq ln 1
  | .dup2 => Nat.beq ln 1
  | .idiv => Nat.beq ln 1
  | .irem => Nat.beq ln 1
  | .laload => Nat.beq ln 1
  | .iastore => Nat.beq ln 1
  | .bastore => Nat.beq ln 1
  | .lastore => Nat.beq ln 1
  | .iaload => Nat.beq ln 1
  | .baload => Nat.beq ln 1
  | .aaload => Nat.beq ln 1
  | .arraylength => Nat.beq ln 1
  | .dcmp _ => Nat.beq ln 1
  | .ifCond _ off => Nat.beq ln 3 && decide ((pc : Int) + off = (r1 : Int))
  | .if_icmp _ off => Nat.beq ln 3 && decide ((pc : Int) + off = (r1 : Int))
  | .goto off => Nat.beq ln 3 && decide ((pc : Int) + off = (r1 : Int))
  | .tableswitch dflt lo hi offs => am_tsb pc offs lo zs && (decide (lo + (offs.size : Int) = hi + 1) && decide ((pc : Int) + dflt = (r1 : Int)))
  | .lookupswitch dflt ps => (ps.toList.zip (ps.toList.drop 1)).all (fun (a, next) => a.1 < next.1) && (am_lsb pc ps.toList zs && decide ((pc : Int) + dflt = (r1 : Int)))
  | .getfield _ => Nat.beq ln 3 && (match r3 with
    | 50 => am_fc 9 0 2
    | 51 => am_fc 9 1 0
    | 0 => am_fc r1 r2 0
    | 2 => am_fc r1 r2 2
    | _ => false)
  | .putfield _ => Nat.beq ln 3 && ((match r3 with
    | 0 => am_fc r1 r2 0 && decide (am_ty r1 r2 = some .int)
    | 4 => am_fc r1 r2 0 && (decide (am_ty r1 r2 = some .byte) || decide (am_ty r1 r2 = some .boolean))
    | 2 => am_fc r1 r2 2
    | _ => false) && (!((am_q r1).2.1 r2).2.2.2 || (decide ((am_mn m).name = "<init>") && decide (((am_q r1).2.1 r2).1 = (am_mn m).cls))))
  | .getstatic _ => Nat.beq ln 3
  | .newarray t => Nat.beq ln 2 && (match t with
    | .int => Nat.beq r1 20
    | .byte => Nat.beq r1 21
    | .long => Nat.beq r1 22
    | .boolean => Nat.beq r1 23
    | _ => false)
  | .new _ => Nat.beq ln 3 && (match r3 with
    | 0 => am_rng r1 && Nat.beq (am_q r1).2.2 r2
    | k => am_thb m pc r1 r2 k)
  | .ldc _ => Nat.beq ln 2 && (match zs with
    | (v, 0) :: _ => decide (-2147483648 ≤ v) && decide (v < 2147483648)
    | (v, 5) :: _ => decide (0 ≤ v) && decide (v < 36)
    | (v, 2) :: _ => decide (0 ≤ -v - 300000000) && (decide (-v - 300000000 < 72) && decide ((-v - 300000000) % 2 = 0))
    | [] => true
    | _ => false)
  | .ldc_w _ => Nat.beq ln 3 && (match zs with
    | (v, 0) :: _ => decide (-2147483648 ≤ v) && decide (v < 2147483648)
    | _ => false)
  | .ldc2_w _ => Nat.beq ln 3 && (match zs with
    | (v, 1) :: _ => decide (0 ≤ v) && decide (v < 9223372036854775808)
    | (v, 3) :: _ => decide (0 ≤ v) && decide (v < 18446744073709551616)
    | _ => false)
  | .invokevirtual _ => Nat.beq ln 3 && (((Nat.beq r1 0 || (Nat.beq r1 14 && am_hb m)) && am_cb m pc r1 r2 r3) || (Nat.beq r1 99 || ((Nat.beq r1 16 && (Nat.beq r3 20 || (Nat.beq r3 21 || Nat.beq r3 23))) || ((Nat.beq r1 8 || Nat.beq r1 10) && (Nat.beq r3 8 && am_ub m pc r1 r2)))))
  | .invokespecial _ => Nat.beq ln 3 && (Nat.beq r1 6 || (Nat.beq r1 17 || (Nat.beq r1 99 || (((Nat.beq r1 4 || Nat.beq r1 5) && am_cb m pc r1 r2 r3) || (Nat.beq r1 9 && (Nat.beq r3 8 && am_ub m pc 9 r2))))))
  | .invokestatic _ => Nat.beq ln 3 && (Nat.beq r1 7 || (Nat.beq r1 8 || (Nat.beq r1 11 || (Nat.beq r1 18 || (Nat.beq r1 19 || (Nat.beq r1 99 || ((Nat.beq r1 2 || (Nat.beq r1 3 || Nat.beq r1 15)) && am_cb m pc r1 r2 r3)))))))
  | .ireturn => Nat.beq ln 1 && (decide (am_rtt m = 0) && (match r1 with
    | 0 => decide (am_re m = some .int)
    | 1 => decide (am_re m = some .boolean)
    | 2 => decide (am_re m = some .char)
    | 3 => decide (am_re m = some .byte)
    | _ => false))
  | .lreturn => Nat.beq ln 1 && (decide (am_rtt m = 1) && decide (am_re m = some .long))
  | .dreturn => Nat.beq ln 1 && (decide (am_rtt m = 3) && decide (am_re m = some .double))
  | .areturn => Nat.beq ln 1 && (decide (am_rtt m = 2) && am_isr (am_re m))
  | .return_ => Nat.beq ln 1 && (decide (am_rtt m = 9) && decide (am_re m = none))
  | .athrow => true
  | _ => false
def am_chk (m : Nat) (e : am_E) : Bool := decide (decode (am_cd m) e.1 = .ok (e.2.1, e.2.2.1)) && am_ci m e.1 e.2.2.1 e.2.2.2.1.1 e.2.2.2.1.2.1 e.2.2.2.1.2.2 e.2.2.2.2.1 e.2.1
/-- the words of a row -/
def am_wi9 (m r1 r2 r3 : Nat) (zs : List (Int × Nat)) : Instr → Prop
  | .getfield idx => (match r3 with
    | 50 => Cond.fieldLink (am_mn m).cls idx "java/lang/String" "value" "[B" ∈ am_W
    | 51 => Cond.fieldLink (am_mn m).cls idx "java/lang/String" "coder" "B" ∈ am_W
    | _ => am_fl m idx r1 r2)
  | .putfield idx => am_fl m idx r1 r2 ∧ (((am_q r1).2.1 r2).2.2.2 = true → Cond.fieldLink (am_mn m).cls idx ((am_q r1).2.1 r2).1 ((am_q r1).2.1 r2).2.1 ((am_q r1).2.1 r2).2.2.1 ∈ am_W)
  | .getstatic idx => (match r3 with
    | 60 => Cond.fieldLink (am_mn m).cls idx "java/lang/String" "COMPACT_STRINGS" "Z" ∈ am_W
    | 63 => Cond.fieldLink (am_mn m).cls idx "java/lang/Integer" "DigitOnes" "[B" ∈ am_W
    | 64 => Cond.fieldLink (am_mn m).cls idx "java/lang/Integer" "DigitTens" "[B" ∈ am_W
    | 62 => Cond.fieldLink (am_mn m).cls idx "jdk/internal/util/Preconditions" "SIOOBE_FORMATTER" "Ljava/util/function/BiFunction;" ∈ am_W
    | _ => False)
  | .newarray t => (match t with
    | .int => Cond.arrayClass .int ∈ am_W
    | .byte => Cond.arrayClass .byte ∈ am_W
    | .long => Cond.arrayClass .long ∈ am_W
    | .boolean => Cond.arrayClass .boolean ∈ am_W
    | _ => False)
  | .checkcast idx => Cond.classLink (am_mn m).cls idx (am_ad r1) ∈ am_W
  | .anewarray idx => (match r1 with
    | 24 => Cond.classLink (am_mn m).cls idx (FieldType.array .int).toString ∈ am_W
    | _ => Cond.classLink (am_mn m).cls idx (FieldType.array .boolean).toString ∈ am_W)
  | .multianewarray idx _ => (match r1 with
    | 24 => Cond.classLink (am_mn m).cls idx ("[" ++ (FieldType.array .int).toString) ∈ am_W ∧ Cond.arrayClass .int ∈ am_W
    | _ => Cond.classLink (am_mn m).cls idx ("[" ++ (FieldType.array .boolean).toString) ∈ am_W ∧ Cond.arrayClass .boolean ∈ am_W)
  | .new idx => (match r3 with
    | 0 => Cond.classLink (am_mn m).cls idx (am_q r1).1 ∈ am_W ∧ Cond.instantiable (am_q r1).1 (am_q r1).2.2 ∈ am_W ∧ Cond.initialized (am_q r1).1 ∈ am_W
    | k => Cond.classLink (am_mn m).cls idx (am_en k) ∈ am_W ∧ Cond.initialized (am_en k) ∈ am_W)
  | .ldc idx => (match zs with
    | (v, 0) :: _ => Cond.constant (am_mn m).cls idx (Int32.ofInt v) ∈ am_W
    | (v, 5) :: _ => (am_own v.toNat).1 = (am_mn m).cls ∧ (am_own v.toNat).2.1 = idx
    | (v, 2) :: _ => (am_own ((-v - 300000000) / 2).toNat).1 = (am_mn m).cls ∧ (am_own ((-v - 300000000) / 2).toNat).2.1 = idx
    | _ => True)
  | .ldc_w idx => (match zs with
    | (v, 0) :: _ => Cond.constant (am_mn m).cls idx (Int32.ofInt v) ∈ am_W
    | _ => True)
  | .ldc2_w idx => (match zs with
    | (v, 1) :: _ => Cond.constantLong (am_mn m).cls idx (Int64.ofInt v) ∈ am_W
    | (v, 3) :: _ => Cond.constantDouble (am_mn m).cls idx (UInt64.ofNat v.toNat) ∈ am_W
    | _ => True)
  | .invokevirtual idx => (match r1 with
    | 16 => Cond.methodLink (am_mn m).cls idx ⟨am_ad r3, "clone", "()Ljava/lang/Object;"⟩ ∈ am_W ∧ Cond.sameMethod (am_ad r3) "java/lang/Object" "clone" "()Ljava/lang/Object;" ∈ am_W ∧ Cond.native ⟨"java/lang/Object", "clone", "()Ljava/lang/Object;"⟩ ∈ am_W ∧ Cond.instanceMethod ⟨"java/lang/Object", "clone", "()Ljava/lang/Object;"⟩ ∈ am_W ∧ Cond.selects (am_ad r3) ⟨am_ad r3, "clone", "()Ljava/lang/Object;"⟩ ⟨"java/lang/Object", "clone", "()Ljava/lang/Object;"⟩ ∈ am_W ∧ Cond.castable (am_ad r3) "java/lang/Cloneable" ∈ lw_tbl
    | 8 => am_uw m 8 idx r2
    | 10 => am_uw m 10 idx r2
    | 99 => True
    | _ => am_cwV m r1 idx r2)
  | .invokespecial idx => (match r1 with
    | 6 => Cond.methodLink (am_mn m).cls idx Lib.objectInit ∈ am_W ∧ Cond.instanceMethod Lib.objectInit ∈ am_W ∧ Cond.code Lib.objectInit ⟨#[0xb1]⟩ 1 none ∈ am_W
    | 17 => Cond.methodLink (am_mn m).cls idx Lib.objectInit ∈ am_W ∧ Cond.instanceMethod Lib.objectInit ∈ am_W ∧ Cond.code Lib.objectInit ⟨#[0xb1]⟩ 1 none ∈ am_W
    | 99 => True
    | 9 => am_uw m 9 idx r2
    | _ => am_cwI m r1 idx r2)
  | .invokestatic idx => (match r1 with
    | 7 => Cond.methodLink (am_mn m).cls idx Lib.Math.min.name ∈ am_W ∧ Cond.static Lib.Math.min.name ∈ am_W ∧ Cond.initialized "java/lang/Math" ∈ am_W ∧ Cond.code Lib.Math.min.name Lib.Math.min.code 2 (some .int) ∈ am_W
    | 8 => Cond.methodLink (am_mn m).cls idx Lib.Math.max.name ∈ am_W ∧ Cond.static Lib.Math.max.name ∈ am_W ∧ Cond.initialized "java/lang/Math" ∈ am_W ∧ Cond.code Lib.Math.max.name Lib.Math.max.code 2 (some .int) ∈ am_W
    | 18 => Cond.methodLink (am_mn m).cls idx ⟨"java/lang/Double", "doubleToRawLongBits", "(D)J"⟩ ∈ am_W ∧ Cond.static ⟨"java/lang/Double", "doubleToRawLongBits", "(D)J"⟩ ∈ am_W ∧ Cond.initialized "java/lang/Double" ∈ am_W ∧ Cond.native ⟨"java/lang/Double", "doubleToRawLongBits", "(D)J"⟩ ∈ am_W
    | 19 => Cond.methodLink (am_mn m).cls idx Jvm.Free.NT.mathAbs64N ∈ am_W ∧ Cond.static Jvm.Free.NT.mathAbs64N ∈ am_W ∧ Cond.initialized "java/lang/Math" ∈ am_W ∧ Cond.code Jvm.Free.NT.mathAbs64N prog_24_method_64_code 2 (some .double) ∈ am_W
    | 11 => Cond.methodLink (am_mn m).cls idx arraycopyName ∈ am_W ∧ Cond.static arraycopyName ∈ am_W ∧ Cond.initialized "java/lang/System" ∈ am_W ∧ Cond.native arraycopyName ∈ am_W
    | 99 => True
    | _ => am_cwS m r1 idx r2)
  | _ => True
def am_wok (m : Nat) (e : am_E) : Prop := am_wi9 m e.2.2.2.1.1 e.2.2.2.1.2.1 e.2.2.2.1.2.2 e.2.2.2.2.1 e.2.1
def am_all2 (P : am_E → Prop) : List am_E → Prop
  | [] => True
  | a :: r => P a ∧ am_all2 P r
theorem am_all2_mem {P : am_E → Prop} : ∀ {l : List am_E}, am_all2 P l → ∀ e ∈ l, P e
  | [], _, e, he => by cases he
  | a :: r, h, e, he => by
    rcases List.mem_cons.mp he with rfl | he
    · exact h.1
    · exact am_all2_mem h.2 e he
theorem am_nb {x : Int32} (h : x.toInt = 0 ∨ x.toInt = 1) : narrow .boolean (.int x) = .int x := by
  rcases h with h | h
  · have : x = 0 := Int32.toInt_inj.mp h
    subst this
    rfl
  · have : x = 1 := Int32.toInt_inj.mp h
    subst this
    rfl
theorem am_nch {x : Int32} (h : 0 ≤ x.toInt ∧ x.toInt < 65536) : narrow .char (.int x) = .int x := by
  have := (pk_charN (q := x.toInt.toNat) (by omega)).1
  have e : nI x.toInt.toNat = x := by
    apply Int32.toInt_inj.mp
    rw [show nI x.toInt.toNat = Int32.ofNat x.toInt.toNat from rfl, Int32.toInt_ofNat']
    show ((x.toInt.toNat : Nat) : Int).bmod 4294967296 = _
    rw [Int.bmod_eq_of_le] <;> omega
  rw [e] at this
  exact this
theorem am_nby {x : Int32} (h : -128 ≤ x.toInt ∧ x.toInt < 128) : narrow .byte (.int x) = .int x := by
  rw [narrow_byte]
  congr 1
  apply Int32.toInt_inj.mp
  rw [Int8.toInt_toInt32, Int32.toInt_toInt8]
  show x.toInt.bmod 256 = _
  rw [Int.bmod_eq_of_le] <;> omega
theorem am_isr_some {o : Option FieldType} (h : am_isr o = true) : ∃ rt, o = some rt ∧ ((∃ n, rt = .object n) ∨ ∃ t, rt = .array t) := by
  cases o with
  | none => cases h
  | some t =>
    cases t with
    | object n => exact ⟨_, rfl, Or.inl ⟨n, rfl⟩⟩
    | array t => exact ⟨_, rfl, Or.inr ⟨t, rfl⟩⟩
    | _ => cases h
theorem am_newk {r3 m idx r1 : Nat} (hz : ∀ (x : r3 = 0), False) (hw : match r3 with
    | 0 => Cond.classLink (am_mn m).cls idx (am_q r1).1 ∈ am_W ∧ Cond.instantiable (am_q r1).1 (am_q r1).2.2 ∈ am_W ∧ Cond.initialized (am_q r1).1 ∈ am_W
    | k => Cond.classLink (am_mn m).cls idx (am_en k) ∈ am_W ∧ Cond.initialized (am_en k) ∈ am_W) : Cond.classLink (am_mn m).cls idx (am_en r3) ∈ am_W ∧ Cond.initialized (am_en r3) ∈ am_W := by
  cases r3 with
  | zero => exact (hz rfl).elim
  | succ k => exact hw
section SIM
variable {G : am_En} {l : Launch} {d m : Nat} {p : Program} {e : Env} {R : Room} {s : State} {mth : MethodId} {args : Array Value} {below : List Frame} {meth : Method} {cd : Code} {Q : State → Prop} {K : AK}
variable {pc : Nat} {ls st : List AV} {h : AH} {c s0 : Nat}
set_option maxHeartbeats 4000000 in
theorem am_disp (C : am_Cx G l d m p R s mth args meth cd) (htab : cd.exceptionTable.toList = tableOf (am_hh m)) (hend : am_End G m K p l e R s mth args below meth cd Q) (hmok : ∀ m2, m2 < 179 → am_mok m2) {ins : Instr} {ln r1 r2 r3 : Nat} {zs : List (Int × Nat)}
    (hd : decode (am_cd m) pc = .ok (ins, ln)) (hc : am_ci m pc ln r1 r2 r3 zs ins = true) (hw : am_wi9 m r1 r2 r3 zs ins)
    (w : am_stp (am_Sim G l) (am_Gl G m p l e R s mth args below meth cd Q) d (am_hd m) K (am_ex r1 r2 r3 zs (am_cap m) (am_cap r2) (am_ml r2) (am_na r2) (am_rtt r2) pc ln ls st h c s0 ins)) : am_Gl G m p l e R s mth args below meth cd Q (pc, ls, st, h, c, s0) := by
  cases ins
  case iconst n =>
    simp only [am_ci, Bool.and_eq_true, decide_eq_true_eq, am_bb] at hc
    obtain ⟨rfl, h1, h2⟩ := hc
    exact am_i_iconst C ⟨h1, h2⟩ hd w
  case bipush n =>
    simp only [am_ci, Bool.and_eq_true, decide_eq_true_eq, am_bb] at hc
    obtain ⟨rfl, h1, h2⟩ := hc
    exact am_i_bipush C ⟨h1, h2⟩ hd w
  case sipush n =>
    simp only [am_ci, Bool.and_eq_true, decide_eq_true_eq, am_bb] at hc
    obtain ⟨rfl, h1, h2⟩ := hc
    exact am_i_sipush C ⟨h1, h2⟩ hd w
  case lconst n =>
    simp only [am_ci, Bool.and_eq_true, decide_eq_true_eq, am_bb] at hc
    subst hc
    exact am_i_lconst C hd w
  case dconst n =>
    simp only [am_ci, Bool.and_eq_true, decide_eq_true_eq, am_bb] at hc
    obtain ⟨rfl, rfl⟩ := hc
    exact am_i_dconst C hd w
  case iload i =>
    simp only [am_ci, Bool.and_eq_true, decide_eq_true_eq, am_bb] at hc
    subst hc
    exact am_i_iload C hd w
  case lload i =>
    simp only [am_ci, Bool.and_eq_true, decide_eq_true_eq, am_bb] at hc
    subst hc
    exact am_i_lload C hd w
  case dload i =>
    simp only [am_ci, Bool.and_eq_true, decide_eq_true_eq, am_bb] at hc
    subst hc
    exact am_i_dload C hd w
  case aload i =>
    simp only [am_ci, Bool.and_eq_true, decide_eq_true_eq, am_bb] at hc
    subst hc
    exact am_i_aload C hd w
  case iload_n i =>
    simp only [am_ci, Bool.and_eq_true, decide_eq_true_eq, am_bb] at hc
    subst hc
    exact am_i_iload_n C hd w
  case lload_n i =>
    simp only [am_ci, Bool.and_eq_true, decide_eq_true_eq, am_bb] at hc
    subst hc
    exact am_i_lload_n C hd w
  case aload_n i =>
    simp only [am_ci, Bool.and_eq_true, decide_eq_true_eq, am_bb] at hc
    subst hc
    exact am_i_aload_n C hd w
  case dload_n i =>
    simp only [am_ci, Bool.and_eq_true, decide_eq_true_eq, am_bb] at hc
    subst hc
    exact am_i_dload_n C hd w
  case aconst_null =>
    simp only [am_ci, Bool.and_eq_true, decide_eq_true_eq, am_bb] at hc
    subst hc
    exact am_i_null C hd w
  case land =>
    simp only [am_ci, Bool.and_eq_true, decide_eq_true_eq, am_bb] at hc
    subst hc
    exact am_i_land C hd w
  case dmul =>
    simp only [am_ci, Bool.and_eq_true, decide_eq_true_eq, am_bb] at hc
    subst hc
    exact am_i_dmul C hd w
  case dsub =>
    simp only [am_ci, Bool.and_eq_true, decide_eq_true_eq, am_bb] at hc
    subst hc
    exact am_i_dsub C hd w
  case aastore =>
    simp only [am_ci, Bool.and_eq_true, decide_eq_true_eq, am_bb] at hc
    subst hc
    exact am_i_aast C hd w
  case ifnull off =>
    simp only [am_ci, Bool.and_eq_true, decide_eq_true_eq, am_bb] at hc
    obtain ⟨rfl, h1⟩ := hc
    exact am_i_ifnull C h1 hd w
  case ifnonnull off =>
    simp only [am_ci, Bool.and_eq_true, decide_eq_true_eq, am_bb] at hc
    obtain ⟨rfl, h1⟩ := hc
    exact am_i_ifnonnull C h1 hd w
  case checkcast idx =>
    simp only [am_ci, Bool.and_eq_true, decide_eq_true_eq, am_bb] at hc
    obtain ⟨rfl, h1⟩ := hc
    simp only [Bool.or_eq_true, am_bb] at h1
    exact am_i_cast C h1 hw hd w
  case anewarray idx =>
    simp only [am_ci, Bool.and_eq_true, decide_eq_true_eq, am_bb] at hc
    obtain ⟨rfl, h1⟩ := hc
    simp only [Bool.or_eq_true, am_bb] at h1
    rcases h1 with rfl | rfl
    · exact am_i_anew_i C hw hd w
    · exact am_i_anew_z C hw hd w
  case multianewarray idx dm =>
    simp only [am_ci, Bool.and_eq_true, decide_eq_true_eq, am_bb] at hc
    obtain ⟨rfl, h0, h1⟩ := hc
    simp only [Bool.or_eq_true, Bool.and_eq_true, am_bb] at h0 h1
    subst h0
    rcases h1 with ⟨rfl, rfl⟩ | ⟨rfl, rfl⟩
    · exact am_i_mna_i C hw.1 hw.2 hd w
    · exact am_i_mna_z C hw.1 hw.2 hd w
  case istore i =>
    simp only [am_ci, Bool.and_eq_true, decide_eq_true_eq, am_bb] at hc
    obtain ⟨rfl, h1⟩ := hc
    exact am_i_istore C (Nat.le_of_ble_eq_true h1) hd w
  case astore i =>
    simp only [am_ci, Bool.and_eq_true, decide_eq_true_eq, am_bb] at hc
    obtain ⟨rfl, h1⟩ := hc
    cases r1 with
    | zero => exact am_i_astore (pr := fun a => 0 ≤ a) C (Nat.le_of_ble_eq_true h1) (fun a z => by omega) hd w
    | succ r1 => exact am_i_astore (pr := fun a => ¬ a = -1) C (Nat.le_of_ble_eq_true h1) (fun a z => z) hd w
  case istore_n i =>
    simp only [am_ci, Bool.and_eq_true, decide_eq_true_eq, am_bb] at hc
    obtain ⟨rfl, h1⟩ := hc
    exact am_i_istore_n C (Nat.le_of_ble_eq_true h1) hd w
  case astore_n i =>
    simp only [am_ci, Bool.and_eq_true, decide_eq_true_eq, am_bb] at hc
    obtain ⟨rfl, h1⟩ := hc
    cases r1 with
    | zero => exact am_i_astore_n (pr := fun a => 0 ≤ a) C (Nat.le_of_ble_eq_true h1) (fun a z => by omega) hd w
    | succ r1 => exact am_i_astore_n (pr := fun a => ¬ a = -1) C (Nat.le_of_ble_eq_true h1) (fun a z => z) hd w
  case lstore i =>
    simp only [am_ci, Bool.and_eq_true, decide_eq_true_eq, am_bb] at hc
    obtain ⟨rfl, h1⟩ := hc
    exact am_i_lstore C (Nat.le_of_ble_eq_true h1) hd w
  case dstore i =>
    simp only [am_ci, Bool.and_eq_true, decide_eq_true_eq, am_bb] at hc
    obtain ⟨rfl, h1⟩ := hc
    exact am_i_dstore C (Nat.le_of_ble_eq_true h1) hd w
  case lstore_n i =>
    simp only [am_ci, Bool.and_eq_true, decide_eq_true_eq, am_bb] at hc
    obtain ⟨rfl, h1⟩ := hc
    exact am_i_lstore_n C (Nat.le_of_ble_eq_true h1) hd w
  case iinc i n =>
    simp only [am_ci, Bool.and_eq_true, decide_eq_true_eq, am_bb] at hc
    obtain ⟨rfl, h1, h2, h3⟩ := hc
    exact am_i_iinc C (Nat.le_of_ble_eq_true h1) ⟨h2, h3⟩ hd w
  case iadd =>
    simp only [am_ci, Bool.and_eq_true, decide_eq_true_eq, am_bb] at hc
    subst hc
    exact am_i_iadd C hd w
  case isub =>
    simp only [am_ci, Bool.and_eq_true, decide_eq_true_eq, am_bb] at hc
    subst hc
    exact am_i_isub C hd w
  case imul =>
    simp only [am_ci, Bool.and_eq_true, decide_eq_true_eq, am_bb] at hc
    subst hc
    exact am_i_imul C hd w
  case ineg =>
    simp only [am_ci, Bool.and_eq_true, decide_eq_true_eq, am_bb] at hc
    subst hc
    exact am_i_ineg C hd w
  case iand =>
    simp only [am_ci, Bool.and_eq_true, decide_eq_true_eq, am_bb] at hc
    subst hc
    exact am_i_iand C hd w
  case ior =>
    simp only [am_ci, Bool.and_eq_true, decide_eq_true_eq, am_bb] at hc
    subst hc
    exact am_i_ior C hd w
  case ixor =>
    simp only [am_ci, Bool.and_eq_true, decide_eq_true_eq, am_bb] at hc
    subst hc
    exact am_i_ixor C hd w
  case ishl =>
    simp only [am_ci, Bool.and_eq_true, decide_eq_true_eq, am_bb] at hc
    subst hc
    exact am_i_ishl C hd w
  case ishr =>
    simp only [am_ci, Bool.and_eq_true, decide_eq_true_eq, am_bb] at hc
    subst hc
    exact am_i_ishr C hd w
  case iushr =>
    simp only [am_ci, Bool.and_eq_true, decide_eq_true_eq, am_bb] at hc
    subst hc
    exact am_i_iushr C hd w
  case i2l =>
    simp only [am_ci, Bool.and_eq_true, decide_eq_true_eq, am_bb] at hc
    subst hc
    exact am_i_i2l C hd w
  case i2b =>
    simp only [am_ci, Bool.and_eq_true, decide_eq_true_eq, am_bb] at hc
    subst hc
    exact am_i_i2b C hd w
  case i2c =>
    simp only [am_ci, Bool.and_eq_true, decide_eq_true_eq, am_bb] at hc
    subst hc
    exact am_i_i2c C hd w
  case i2d =>
    simp only [am_ci, Bool.and_eq_true, decide_eq_true_eq, am_bb] at hc
    subst hc
    exact am_i_i2d C hd w
  case l2i =>
    simp only [am_ci, Bool.and_eq_true, decide_eq_true_eq, am_bb] at hc
    subst hc
    exact am_i_l2i C hd w
  case ladd =>
    simp only [am_ci, Bool.and_eq_true, decide_eq_true_eq, am_bb] at hc
    subst hc
    exact am_i_ladd C hd w
  case lsub =>
    simp only [am_ci, Bool.and_eq_true, decide_eq_true_eq, am_bb] at hc
    subst hc
    exact am_i_lsub C hd w
  case lmul =>
    simp only [am_ci, Bool.and_eq_true, decide_eq_true_eq, am_bb] at hc
    subst hc
    exact am_i_lmul C hd w
  case lcmp =>
    simp only [am_ci, Bool.and_eq_true, decide_eq_true_eq, am_bb] at hc
    subst hc
    exact am_i_lcmp C hd w
  case ddiv =>
    simp only [am_ci, Bool.and_eq_true, decide_eq_true_eq, am_bb] at hc
    subst hc
    exact am_i_ddiv C hd w
  case dup =>
    simp only [am_ci, Bool.and_eq_true, decide_eq_true_eq, am_bb] at hc
    subst hc
    exact am_i_dup C hd w
  case pop =>
    simp only [am_ci, Bool.and_eq_true, decide_eq_true_eq, am_bb] at hc
    subst hc
    exact am_i_pop C hd w
  case dup2 =>
    simp only [am_ci, Bool.and_eq_true, decide_eq_true_eq, am_bb] at hc
    subst hc
    exact am_i_dup2 C hd w
  case idiv =>
    simp only [am_ci, Bool.and_eq_true, decide_eq_true_eq, am_bb] at hc
    subst hc
    exact am_i_idiv C hd w
  case irem =>
    simp only [am_ci, Bool.and_eq_true, decide_eq_true_eq, am_bb] at hc
    subst hc
    exact am_i_irem C hd w
  case laload =>
    simp only [am_ci, Bool.and_eq_true, decide_eq_true_eq, am_bb] at hc
    subst hc
    exact am_i_laload C hd w
  case iastore =>
    simp only [am_ci, Bool.and_eq_true, decide_eq_true_eq, am_bb] at hc
    subst hc
    exact am_i_iastore C hd w
  case bastore =>
    simp only [am_ci, Bool.and_eq_true, decide_eq_true_eq, am_bb] at hc
    subst hc
    dsimp only [am_ex] at w
    by_cases e2 : r1 = 2
    · subst e2
      exact am_i_zastore C hd w
    · refine am_i_bastore (X := am_Sim G l) (K := K) (hs := am_hd m) (d := d) C hd ?_
      have w1 := am_pI_inv w
      clear w
      obtain ⟨v, r, rfl, w⟩ := w1
      have w1 := am_pI_inv w
      clear w
      obtain ⟨i, r, rfl, w⟩ := w1
      have w1 := am_pR_inv w
      clear w
      obtain ⟨a, r, rfl, w⟩ := w1
      split at w
      · exact absurd rfl e2
      · exact w
  case lastore =>
    simp only [am_ci, Bool.and_eq_true, decide_eq_true_eq, am_bb] at hc
    subst hc
    exact am_i_lastore C hd w
  case iaload =>
    simp only [am_ci, Bool.and_eq_true, decide_eq_true_eq, am_bb] at hc
    subst hc
    have w1 := am_pI_inv w
    obtain ⟨i, r, rfl, w2⟩ := w1
    split at w2
    · exact am_i_iaload C hd w
    · exact am_i_sald C rfl hd w2
    · exact w2.elim
  case baload =>
    simp only [am_ci, Bool.and_eq_true, decide_eq_true_eq, am_bb] at hc
    subst hc
    have w1 := am_pI_inv w
    obtain ⟨i, r, rfl, w2⟩ := w1
    split at w2
    · split at w2
      · exact am_i_baload C hd w2
      · exact am_i_baload2 C hd w2
      · exact am_i_zaload C hd w2
    · exact am_i_tbald C rfl hd w2
    · exact w2.elim
  case aaload =>
    simp only [am_ci, Bool.and_eq_true, decide_eq_true_eq, am_bb] at hc
    subst hc
    exact am_i_aald C hd w
  case arraylength =>
    simp only [am_ci, Bool.and_eq_true, decide_eq_true_eq, am_bb] at hc
    subst hc
    dsimp only [am_ex] at w
    cases st with
    | nil => exact w.elim
    | cons v r =>
      obtain ⟨t, j⟩ := v
      match t, w with
      | 0, w => exact w.elim
      | 1, w => exact w.elim
      | 2, w =>
        cases r1 with
        | zero => exact am_i_alen (pr := fun a => 20 ≤ am_t h a ∧ am_t h a ≤ 22) C (fun a z => by omega) hd w
        | succ r1 => exact am_i_alen (pr := fun a => 20 ≤ am_t h a ∧ am_t h a ≤ 26) C (fun a z => z) hd w
      | 3, w => exact w.elim
      | 4, w => exact am_i_slen C rfl hd w
      | 5, w => exact w.elim
      | 6, w => exact w.elim
      | 7, w => exact am_i_tlen C rfl hd w
      | n + 8, w => exact w.elim
  case dcmp op =>
    simp only [am_ci, Bool.and_eq_true, decide_eq_true_eq, am_bb] at hc
    subst hc
    cases op
    · exact am_i_dcmpg C hd w
    · exact am_i_dcmpl C hd w
  case ifCond cd2 off =>
    simp only [am_ci, Bool.and_eq_true, decide_eq_true_eq, am_bb] at hc
    obtain ⟨rfl, h1⟩ := hc
    cases cd2
    · exact am_i_if_eq C h1 hd w
    · exact am_i_if_ne C h1 hd w
    · exact am_i_if_lt C h1 hd w
    · exact am_i_if_ge C h1 hd w
    · exact am_i_if_gt C h1 hd w
    · exact am_i_if_le C h1 hd w
  case if_icmp cd2 off =>
    simp only [am_ci, Bool.and_eq_true, decide_eq_true_eq, am_bb] at hc
    obtain ⟨rfl, h1⟩ := hc
    cases cd2
    · exact am_i_icmp_eq C h1 hd w
    · exact am_i_icmp_ne C h1 hd w
    · exact am_i_icmp_lt C h1 hd w
    · exact am_i_icmp_ge C h1 hd w
    · exact am_i_icmp_gt C h1 hd w
    · exact am_i_icmp_le C h1 hd w
  case goto off =>
    simp only [am_ci, Bool.and_eq_true, decide_eq_true_eq, am_bb] at hc
    obtain ⟨rfl, h1⟩ := hc
    exact am_i_goto C h1 hd w
  case tableswitch dflt lo hi offs =>
    simp only [am_ci, Bool.and_eq_true, decide_eq_true_eq, am_bb] at hc
    obtain ⟨h1, h2, h3⟩ := hc
    unfold am_tsb at h1
    rw [Bool.and_eq_true, am_bb, List.all_eq_true] at h1
    refine am_i_tsw C h1.1 h2 (fun k hk => ?_) h3 hd w
    have h4 := h1.2 k (List.mem_range.mpr hk)
    split at h4
    · rename_i off v t e1 e2
      simp only [Bool.and_eq_true, decide_eq_true_eq] at h4
      obtain ⟨rfl, h6⟩ := h4
      exact ⟨off, t, e1, e2, h6⟩
    · cases h4
  case lookupswitch dflt ps =>
    simp only [am_ci, Bool.and_eq_true, decide_eq_true_eq, am_bb] at hc
    obtain ⟨h0, h1, h3⟩ := hc
    unfold am_lsb at h1
    rw [Bool.and_eq_true, am_bb, List.all_eq_true] at h1
    refine am_i_lsw C h0 h1.1 (fun k hk => ?_) h3 hd w
    have h4 := h1.2 k (List.mem_range.mpr hk)
    split at h4
    · rename_i v off v2 t e1 e2
      simp only [Bool.and_eq_true, decide_eq_true_eq] at h4
      obtain ⟨rfl, h6⟩ := h4
      exact ⟨_, off, t, e1, e2, h6⟩
    · cases h4
  case getfield idx =>
    simp only [am_ci, Bool.and_eq_true, decide_eq_true_eq, am_bb] at hc
    obtain ⟨rfl, h1⟩ := hc
    by_cases e1 : r3 = 50
    · subst e1
      cases st with
      | nil => exact w.elim
      | cons v r =>
        obtain ⟨t, j⟩ := v
        match t, w with
        | 0, w => exact w.elim
        | 1, w => exact w.elim
        | 2, w => exact am_i_sval C hw (am_fc_ok h1 (Or.inl hw)).2.2.2 hd rfl w
        | 3, w => exact w.elim
        | 4, w => exact w.elim
        | 5, w => exact am_i_tval C rfl hw hd w
        | n + 6, w => exact w.elim
    by_cases e2 : r3 = 51
    · subst e2
      cases st with
      | nil => exact w.elim
      | cons v r =>
        obtain ⟨t, j⟩ := v
        match t, w with
        | 0, w => exact w.elim
        | 1, w => exact w.elim
        | 2, w => exact am_i_scod C hw (am_fc_ok h1 (Or.inl hw)).2.2.2 hd rfl w
        | 3, w => exact w.elim
        | 4, w => exact w.elim
        | 5, w => exact am_i_tcoder C rfl hw hd w
        | n + 6, w => exact w.elim
    by_cases e3 : r3 = 0
    · subst e3
      dsimp only [am_ex, am_wi9] at w hw
      exact am_i_getfield C (am_fc_ok h1 hw).2.2.2 hd w
    by_cases e4 : r3 = 2
    · subst e4
      dsimp only [am_ex, am_wi9] at w hw
      exact am_i_getfield C (am_fc_ok h1 hw).2.2.2 hd w
    exfalso
    split at h1
    · exact e1 rfl
    · exact e2 rfl
    · exact e3 rfl
    · exact e4 rfl
    · cases h1
  case putfield idx =>
    simp only [am_ci, Bool.and_eq_true, decide_eq_true_eq, am_bb] at hc
    obtain ⟨rfl, h1, h9⟩ := hc
    obtain ⟨hw, hw9⟩ := hw
    by_cases e3 : r3 = 0
    · subst e3
      dsimp only [am_ex] at w
      simp only [Bool.and_eq_true, Bool.or_eq_true, decide_eq_true_eq] at h1
      obtain ⟨h1, h8⟩ := h1
      obtain ⟨g1, g2, g3, g4⟩ := am_fc_ok h1 hw
      have hty := am_ty0_ok g1
      obtain ⟨k1, k2, k3⟩ := am_fld g1
      have hi : am_ty0 r1 r2 = .int := by
        unfold am_ty0
        rw [h8]
        rfl
      cases hf : ((am_q r1).2.1 r2).2.2.2 with
      | false => exact am_i_putfield_i C g4 (am_ty0 r1) hty k3 hf hi hd w
      | true =>
        rw [hf] at h9
        simp only [Bool.not_true, Bool.false_or, Bool.and_eq_true, decide_eq_true_eq] at h9
        refine am_i_putfield_iF C g4 (am_ty0 r1) hty k3 hf h9.1 h9.2 ?_ hi hd w
        exact hw9 hf
    by_cases e9 : r3 = 4
    · subst e9
      dsimp only [am_ex] at w
      simp only [Bool.and_eq_true, Bool.or_eq_true, decide_eq_true_eq] at h1
      obtain ⟨h1, h8⟩ := h1
      obtain ⟨g1, g2, g3, g4⟩ := am_fc_ok h1 hw
      have hty := am_ty0_ok g1
      obtain ⟨k1, k2, k3⟩ := am_fld g1
      have hi : am_ty0 r1 r2 = .byte ∨ am_ty0 r1 r2 = .boolean := by
        unfold am_ty0
        rcases h8 with h8 | h8
        · rw [h8]
          exact Or.inl rfl
        · rw [h8]
          exact Or.inr rfl
      cases hf : ((am_q r1).2.1 r2).2.2.2 with
      | false => exact am_i_putfield_ib C g4 (am_ty0 r1) hty k3 hf hi hd w
      | true =>
        rw [hf] at h9
        simp only [Bool.not_true, Bool.false_or, Bool.and_eq_true, decide_eq_true_eq] at h9
        refine am_i_putfield_iFb C g4 (am_ty0 r1) hty k3 hf h9.1 h9.2 ?_ hi hd w
        exact hw9 hf
    by_cases e4 : r3 = 2
    · subst e4
      dsimp only [am_ex, am_wi9] at w hw
      obtain ⟨g1, g2, g3, g4⟩ := am_fc_ok h1 hw
      have hty := am_ty0_ok g1
      obtain ⟨k1, k2, k3⟩ := am_fld g1
      have hi : (∃ n, am_ty0 r1 r2 = .object n) ∨ ∃ t, am_ty0 r1 r2 = .array t := by
        rcases k2 _ g2 with ⟨q1, q2, q3⟩ | ⟨q1, q2, q3⟩
        · omega
        · exact am_ty0_r q1
      cases hf : ((am_q r1).2.1 r2).2.2.2 with
      | false => exact am_i_putfield_r C g4 (am_ty0 r1) hty k3 hf hi hd w
      | true =>
        rw [hf] at h9
        simp only [Bool.not_true, Bool.false_or, Bool.and_eq_true, decide_eq_true_eq] at h9
        refine am_i_putfield_rF C g4 (am_ty0 r1) hty k3 hf h9.1 h9.2 ?_ hi hd w
        exact hw9 hf
    exfalso
    split at h1
    · exact e3 rfl
    · exact e9 rfl
    · exact e4 rfl
    · cases h1
  case getstatic idx =>
    simp only [am_ci, Bool.and_eq_true, decide_eq_true_eq, am_bb] at hc
    subst hc
    by_cases e60 : r3 = 60
    · subst e60
      exact am_i_gs60 C hw hd w
    by_cases e63 : r3 = 63
    · subst e63
      exact am_i_gs63 C hw hd w
    by_cases e64 : r3 = 64
    · subst e64
      exact am_i_gs64 C hw hd w
    by_cases e62 : r3 = 62
    · subst e62
      exact am_i_gs62 C hw hd w
    exfalso
    dsimp only [am_ex] at w
    split at w
    · exact e60 rfl
    · exact e62 rfl
    · exact e63 rfl
    · exact e64 rfl
    · exact w.elim
  case newarray t =>
    simp only [am_ci, Bool.and_eq_true, decide_eq_true_eq, am_bb] at hc
    obtain ⟨rfl, h1⟩ := hc
    cases t with
    | int =>
      have h1 := (am_bb _ _).mp h1
      subst h1
      exact am_i_newarray_i C hw hd w
    | byte =>
      have h1 := (am_bb _ _).mp h1
      subst h1
      exact am_i_newarray_y C hw hd w
    | long =>
      have h1 := (am_bb _ _).mp h1
      subst h1
      exact am_i_newarray_j C hw hd w
    | boolean =>
      have h1 := (am_bb _ _).mp h1
      subst h1
      exact am_i_newarray_z C hw hd w
    | _ => cases h1
  case new idx =>
    simp only [am_ci, Bool.and_eq_true, decide_eq_true_eq, am_bb] at hc
    obtain ⟨rfl, h1⟩ := hc
    by_cases hz : r3 = 0
    · subst hz
      dsimp only [am_ex, am_wi9] at w hw
      simp only [Bool.and_eq_true, am_bb] at h1
      obtain ⟨g0, rfl⟩ := h1
      obtain ⟨g1, g2, g3⟩ := am_rng_q g0
      obtain ⟨k1, k2, k3⟩ := am_fld g0
      refine am_i_new C g1 rfl g2 g3 k1 (am_ty0 r1) (am_ty0_ok g0) (fun k hk => ?_) hw.1 hw.2.1 hw.2.2 hd w
      rcases k2 k hk with ⟨q1, q2, q3⟩ | ⟨q1, q2, q3⟩
      · rw [q2, q3]
        rcases q1 with q1 | q1 | q1
        · rw [show am_ty0 r1 k = .int by unfold am_ty0; rw [q1]; rfl]
          exact ⟨0, rfl, rfl⟩
        · rw [show am_ty0 r1 k = .byte by unfold am_ty0; rw [q1]; rfl]
          exact ⟨0, rfl, rfl⟩
        · rw [show am_ty0 r1 k = .boolean by unfold am_ty0; rw [q1]; rfl]
          exact ⟨0, rfl, rfl⟩
      · rw [q2, q3]
        rcases am_ty0_r q1 with ⟨n, hn⟩ | ⟨n, hn⟩
        · rw [hn]
          exact Or.inl ⟨rfl, rfl⟩
        · rw [hn]
          exact Or.inl ⟨rfl, rfl⟩
    · obtain ⟨k, rfl⟩ : ∃ k, r3 = k + 1 := ⟨r3 - 1, by omega⟩
      have htk := am_thb_ok h1 hd (am_newk (r1 := r1) hz hw).1 (am_newk (r1 := r1) hz hw).2
      cases st with
      | nil =>
        obtain ⟨⟨b1, b2⟩, w2⟩ := w
        have hcap := C.2.2.2.2.2.2.1.2.2
        intro H locs arr sv hH hS hL hst hcc hs0
        exact hend.2 H locs arr sv [] h pc (k + 1) c s0 w2 htk hL.1 hst (by simp [am_cat]) hH hS (by omega) (by omega)
      | cons v r => exact w.elim
  case ldc idx =>
    simp only [am_ci, Bool.and_eq_true, decide_eq_true_eq, am_bb] at hc
    obtain ⟨rfl, h1⟩ := hc
    dsimp only [am_ex, am_wi9] at w hw
    split at h1
    · simp only [Bool.and_eq_true, decide_eq_true_eq] at h1
      exact am_i_ldci C h1 hw hd w
    · rename_i v t
      simp only [Bool.and_eq_true, decide_eq_true_eq] at h1
      obtain ⟨j, rfl⟩ : ∃ j : Nat, v = (j : Int) := ⟨v.toNat, by omega⟩
      exact am_i_ldct C (by omega) hw hd w
    · rename_i v t
      simp only [Bool.and_eq_true, decide_eq_true_eq] at h1
      obtain ⟨j, rfl⟩ : ∃ j : Nat, v = -(300000000 + 2 * (j : Int)) := ⟨((-v - 300000000) / 2).toNat, by omega⟩
      have ej : ((-(-(300000000 + 2 * (j : Int))) - 300000000) / 2).toNat = j := by omega
      have hw2 : (am_own ((-(-(300000000 + 2 * (j : Int))) - 300000000) / 2).toNat).1 = (am_mn m).cls ∧ (am_own ((-(-(300000000 + 2 * (j : Int))) - 300000000) / 2).toNat).2.1 = idx := hw
      rw [ej] at hw2
      exact am_i_ldck C (by omega) hw2 hd w
    · exact w.elim
    · cases h1
  case ldc_w idx =>
    simp only [am_ci, Bool.and_eq_true, decide_eq_true_eq, am_bb] at hc
    obtain ⟨rfl, h1⟩ := hc
    dsimp only [am_ex, am_wi9] at w hw
    split at h1
    · simp only [Bool.and_eq_true, decide_eq_true_eq] at h1
      exact am_i_ldcwi C h1 hw hd w
    · cases h1
  case ldc2_w idx =>
    simp only [am_ci, Bool.and_eq_true, decide_eq_true_eq, am_bb] at hc
    obtain ⟨rfl, h1⟩ := hc
    dsimp only [am_ex, am_wi9] at w hw
    split at h1
    · simp only [Bool.and_eq_true, decide_eq_true_eq] at h1
      exact am_i_ldcl C h1 hw hd w
    · simp only [Bool.and_eq_true, decide_eq_true_eq] at h1
      exact am_i_ldcd C h1 hw hd w
    · cases h1
  case invokevirtual idx =>
    simp only [am_ci, Bool.and_eq_true, decide_eq_true_eq, am_bb] at hc
    simp only [Bool.or_eq_true, Bool.and_eq_true, am_bb] at hc
    obtain ⟨rfl, h1⟩ := hc
    rcases h1 with ⟨h1, h2⟩ | rfl | ⟨rfl, h1⟩ | ⟨h1, rfl, h2⟩
    · rcases h1 with rfl | ⟨rfl, h3⟩
      · dsimp only [am_ex, am_wi9] at w hw
        obtain ⟨a1, a2, a3, a4⟩ := hw
        exact am_i_virt C (Or.inl rfl) (am_cb_ok hmok h2 a1 a2 (fun z => by cases z) (fun _ => a3) (fun _ => a4)) hd w
      · dsimp only [am_ex, am_wi9] at w hw
        obtain ⟨a1, a2, a3, a4⟩ := hw
        exact am_i_virtX C (am_cb_ok hmok h2 a1 a2 (fun z => by cases z) (fun _ => a3) (fun _ => a4)) (am_hb_ok h3) htab hd w
    · exact w.elim
    · dsimp only [am_ex, am_wi9] at w hw
      obtain ⟨a1, a2, a3, a4, a5, a6⟩ := hw
      exact am_i_clone C h1 a1 a2 a3 a4 a5 a6 hd w
    · rcases h1 with rfl | rfl
      · dsimp only [am_ex, am_wi9] at w hw
        exact am_i_virtU C (Or.inl rfl) (am_ub_ok hmok (Or.inl rfl) h2 hw) hd w
      · dsimp only [am_ex, am_wi9] at w hw
        exact am_i_virtU C (Or.inr rfl) (am_ub_ok hmok (Or.inr (Or.inr rfl)) h2 hw) hd w
  case invokespecial idx =>
    simp only [am_ci, Bool.and_eq_true, decide_eq_true_eq, am_bb] at hc
    simp only [Bool.or_eq_true, Bool.and_eq_true, am_bb] at hc
    obtain ⟨rfl, h1⟩ := hc
    rcases h1 with rfl | rfl | rfl | ⟨h1, h2⟩ | ⟨rfl, rfl, h2⟩
    · dsimp only [am_ex, am_wi9] at w hw
      exact am_i_objinit (pr := fun a => 0 ≤ a) C hw.1 hw.2.1 hw.2.2 (fun a z => by omega) hd w
    · dsimp only [am_ex, am_wi9] at w hw
      exact am_i_objinit (pr := fun a => ¬ a = -1) C hw.1 hw.2.1 hw.2.2 (fun a z => z) hd w
    · dsimp only [am_ex, am_wi9] at w hw
      exact w.elim
    · rcases h1 with rfl | rfl
      · dsimp only [am_ex, am_wi9] at w hw
        exact am_i_spec C (Or.inl rfl) (am_cb_ok hmok h2 hw.1 hw.2.1 (fun z => by cases z) (fun _ => hw.2.2) (fun z => by cases z)) hd w
      · dsimp only [am_ex, am_wi9] at w hw
        exact am_i_spec C (Or.inr rfl) (am_cb_ok hmok h2 hw.1 hw.2.1 (fun z => by cases z) (fun _ => hw.2.2) (fun z => by cases z)) hd w
    · dsimp only [am_ex, am_wi9] at w hw
      exact am_i_sup C rfl (am_ub_ok hmok (Or.inr (Or.inl rfl)) h2 hw) hd w
  case invokestatic idx =>
    simp only [am_ci, Bool.and_eq_true, decide_eq_true_eq, am_bb] at hc
    simp only [Bool.or_eq_true, Bool.and_eq_true, am_bb] at hc
    obtain ⟨rfl, h1⟩ := hc
    dsimp only [am_ex, am_wi9] at w hw
    rcases h1 with rfl | rfl | rfl | rfl | rfl | rfl | ⟨h1, h2⟩
    · exact am_i_mmin C hw.1 hw.2.1 hw.2.2.1 hw.2.2.2 hd w
    · exact am_i_mmax C hw.1 hw.2.1 hw.2.2.1 hw.2.2.2 hd w
    · exact am_i_cp C hw.1 hw.2.1 hw.2.2.1 hw.2.2.2 hd w
    · exact am_i_d2l C hw.1 hw.2.1 hw.2.2.1 hw.2.2.2 hd w
    · exact am_i_dab C hw.1 hw.2.1 hw.2.2.1 hw.2.2.2 hd w
    · exact w.elim
    · rcases h1 with rfl | rfl | rfl
      · exact am_i_stat C (Or.inl rfl) (am_cb_ok hmok h2 hw.1 hw.2.1 (fun _ => hw.2.2) (fun z => by cases z) (fun z => by cases z)) hd w
      · exact am_i_stat C (Or.inr rfl) (am_cb_ok hmok h2 hw.1 hw.2.1 (fun _ => hw.2.2) (fun z => by cases z) (fun z => by cases z)) hd w
      · exact am_i_statW C (am_cb_ok hmok h2 hw.1 hw.2.1 (fun _ => hw.2.2) (fun z => by cases z) (fun z => by cases z)) hd w
  case ireturn =>
    simp only [am_ci, Bool.and_eq_true, decide_eq_true_eq, am_bb] at hc
    obtain ⟨rfl, h1, h2⟩ := hc
    have w1 := am_pI_inv w
    clear w
    obtain ⟨v, r, rfl, w⟩ := w1
    split at w
    · intro H locs arr sv hH hS hL hst hcc hs0
      dsimp only at hH hL hst hcc hs0 ⊢
      have hq := am_RS_inv hst
      clear hst
      obtain ⟨V, sv, rfl, ⟨x, rfl, rfl⟩, hst⟩ := hq
      cases sv with
      | cons a b => exact hst.elim
      | nil =>
        split at h2
        · exact hend.1 H locs arr _ h _ pc c s0 w (Or.inl ⟨hd, x, .int, rfl, rfl, of_decide_eq_true h2, rfl, h1⟩) hH hS hcc hs0
        · exact hend.1 H locs arr _ h _ pc c s0 w.2 (Or.inl ⟨hd, x, .boolean, rfl, rfl, of_decide_eq_true h2, am_nb w.1, h1⟩) hH hS hcc hs0
        · exact hend.1 H locs arr _ h _ pc c s0 w.2 (Or.inl ⟨hd, x, .char, rfl, rfl, of_decide_eq_true h2, am_nch w.1, h1⟩) hH hS hcc hs0
        · exact hend.1 H locs arr _ h _ pc c s0 w.2 (Or.inl ⟨hd, x, .byte, rfl, rfl, of_decide_eq_true h2, am_nby w.1, h1⟩) hH hS hcc hs0
        · cases h2
    · exact w.elim
  case lreturn =>
    simp only [am_ci, Bool.and_eq_true, decide_eq_true_eq, am_bb] at hc
    obtain ⟨rfl, h1, h2⟩ := hc
    have w1 := am_pL_inv w
    clear w
    obtain ⟨v, r, rfl, w⟩ := w1
    split at w
    · intro H locs arr sv hH hS hL hst hcc hs0
      dsimp only at hH hL hst hcc hs0 ⊢
      have hq := am_RS_inv hst
      clear hst
      obtain ⟨V, sv, rfl, ⟨x, rfl, rfl⟩, hst⟩ := hq
      cases sv with
      | cons a b => exact hst.elim
      | nil =>
        exact hend.1 H locs arr _ h _ pc c s0 w (Or.inr (Or.inl ⟨hd, x, rfl, rfl, h2, h1⟩)) hH hS hcc hs0
    · exact w.elim
  case dreturn =>
    simp only [am_ci, Bool.and_eq_true, decide_eq_true_eq, am_bb] at hc
    obtain ⟨rfl, h1, h2⟩ := hc
    have w1 := am_pD_inv w
    clear w
    obtain ⟨v, r, rfl, w⟩ := w1
    split at w
    · intro H locs arr sv hH hS hL hst hcc hs0
      dsimp only at hH hL hst hcc hs0 ⊢
      have hq := am_RS_inv hst
      clear hst
      obtain ⟨V, sv, rfl, ⟨x, rfl, rfl⟩, hst⟩ := hq
      cases sv with
      | cons a b => exact hst.elim
      | nil =>
        exact hend.1 H locs arr _ h _ pc c s0 w (Or.inr (Or.inr (Or.inl ⟨hd, x, rfl, rfl, h2, h1⟩))) hH hS hcc hs0
    · exact w.elim
  case areturn =>
    simp only [am_ci, Bool.and_eq_true, decide_eq_true_eq, am_bb] at hc
    obtain ⟨rfl, h1, h2⟩ := hc
    have w1 := am_pR_inv w
    clear w
    obtain ⟨v, r, rfl, w⟩ := w1
    split at w
    · intro H locs arr sv hH hS hL hst hcc hs0
      dsimp only at hH hL hst hcc hs0 ⊢
      have hq := am_RS_inv hst
      clear hst
      obtain ⟨V, sv, rfl, hV, hst⟩ := hq
      cases sv with
      | cons a b => exact hst.elim
      | nil =>
        obtain ⟨rt, e1, e2⟩ := am_isr_some h2
        exact hend.1 H locs arr _ h _ pc c s0 w (Or.inr (Or.inr (Or.inr (Or.inl ⟨hd, V, rt, rfl, hV, e1, e2, h1⟩)))) hH hS hcc hs0
    · exact w.elim
  case return_ =>
    simp only [am_ci, Bool.and_eq_true, decide_eq_true_eq, am_bb] at hc
    obtain ⟨rfl, h1, h2⟩ := hc
    dsimp only [am_ex] at w
    split at w
    · intro H locs arr sv hH hS hL hst hcc hs0
      dsimp only at hH hL hst hcc hs0 ⊢
      cases sv with
      | cons a b => exact hst.elim
      | nil =>
        exact hend.1 H locs arr _ h _ pc c s0 w (Or.inr (Or.inr (Or.inr (Or.inr ⟨hd, rfl, h2, h1⟩)))) hH hS hcc hs0
    · exact w.elim
  all_goals first | exact w.elim | cases hc
end SIM
