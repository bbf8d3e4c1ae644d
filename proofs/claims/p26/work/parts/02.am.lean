/-! ===== THE ABSTRACT MACHINE: whole numbers on stack and in locals, a heap of tags, lengths and contents at addresses counted from where the law began ===== -/
/-- a value: 0 int, 1 long, 2 an object's address (-1 null), 3 double (its bits), 4 the script, 5 a text, 6 the row of words, 7 a text's bytes, 8 second half, 9 nothing, 10 some reference, 11 some old reference or null -/
abbrev AV : Type := Nat × Int
/-- a heap: tags (0 nothing), lengths, contents, the next address, the script's length and ints -/
abbrev AH : Type := (Int → Nat) × (Int → Int) × (Int → Int → Int) × Int × Int × (Int → Int)
def am_t (h : AH) (a : Int) : Nat := h.1 a
def am_l (h : AH) (a : Int) : Int := h.2.1 a
def am_m (h : AH) (a i : Int) : Int := h.2.2.1 a i
def am_n (h : AH) : Int := h.2.2.2.1
def am_sl (h : AH) : Int := h.2.2.2.2.1
def am_sx (h : AH) (i : Int) : Int := h.2.2.2.2.2 i
def am_w (h : AH) (a i v : Int) : AH := (h.1, h.2.1, fun b j => if b = a ∧ j = i then v else h.2.2.1 b j, h.2.2.2)
def am_a (h : AH) (t : Nat) (n : Int) (f : Int → Int) : AH := (fun b => if b = h.2.2.2.1 then t else h.1 b, fun b => if b = h.2.2.2.1 then n else h.2.1 b, fun b j => if b = h.2.2.2.1 then f j else h.2.2.1 b j, h.2.2.2.1 + 1, h.2.2.2.2)
def am_sn (h : AH) (n : Int) : AH := (h.1, h.2.1, h.2.2.1, n, h.2.2.2.2)
/-- a row of n rows of m zeros -/
def am_mk2 (h : AH) (t u : Nat) (n m : Int) : AH := (fun b => if b = h.2.2.2.1 then t else if h.2.2.2.1 < b ∧ b ≤ h.2.2.2.1 + n then u else h.1 b, fun b => if b = h.2.2.2.1 then n else if h.2.2.2.1 < b ∧ b ≤ h.2.2.2.1 + n then m else h.2.1 b, fun b j => if b = h.2.2.2.1 then h.2.2.2.1 + 1 + j else if h.2.2.2.1 < b ∧ b ≤ h.2.2.2.1 + n then 0 else h.2.2.1 b j, h.2.2.2.1 + 1 + n, h.2.2.2.2)
def am_cp (h : AH) (a i b j n : Int) : AH := (h.1, h.2.1, fun q k => if q = b ∧ j ≤ k ∧ k < j + n then h.2.2.1 a (i + (k - j)) else h.2.2.1 q k, h.2.2.2)
/-- place in the code, locals, stack, heap, cells and slots made so far in this call -/
abbrev AC : Type := Nat × List AV × List AV × AH × Nat × Nat
/-- what is wanted at the end: 0 and the answer, or the kind of what is thrown and its address; the heap -/
abbrev AK : Type := Nat → Int → AH → Prop
abbrev ASh : Type := AC ⊕ (Prop × AC) ⊕ (Prop × AC × AC) ⊕ (Int × List (Int × AC) × AC) ⊕ (Nat × List AV × Nat × Nat × AC) ⊕ (Prop × Nat × List AV × Nat × Nat × AC) ⊕ (Int × AH) ⊕ (Prop × Int × AH) ⊕ (Prop × Nat × AH) ⊕ Unit
def am_go (c : AC) : ASh := .inl c
def am_ck (p : Prop) (c : AC) : ASh := .inr (.inl (p, c))
def am_br (p : Prop) (a b : AC) : ASh := .inr (.inr (.inl (p, a, b)))
def am_sw (x : Int) (l : List (Int × AC)) (d : AC) : ASh := .inr (.inr (.inr (.inl (x, l, d))))
def am_cl (m : Nat) (as : List AV) (pc rt : Nat) (c : AC) : ASh := .inr (.inr (.inr (.inr (.inl (m, as, pc, rt, c)))))
def am_cc (p : Prop) (m : Nat) (as : List AV) (pc rt : Nat) (c : AC) : ASh := .inr (.inr (.inr (.inr (.inr (.inl (p, m, as, pc, rt, c))))))
def am_rt (v : Int) (h : AH) : ASh := .inr (.inr (.inr (.inr (.inr (.inr (.inl (v, h)))))))
def am_rc (p : Prop) (v : Int) (h : AH) : ASh := .inr (.inr (.inr (.inr (.inr (.inr (.inr (.inl (p, v, h))))))))
def am_th (p : Prop) (k : Nat) (h : AH) : ASh := .inr (.inr (.inr (.inr (.inr (.inr (.inr (.inr (.inl (p, k, h)))))))))
def am_bad : ASh := .inr (.inr (.inr (.inr (.inr (.inr (.inr (.inr (.inr ()))))))))
def am_nth {α : Type} : List α → Nat → α → α
  | [], _, d => d
  | a :: _, 0, _ => a
  | _ :: r, n + 1, d => am_nth r n d
def am_get : List AV → Nat → AV
  | [], _ => (9, 0)
  | a :: _, 0 => a
  | _ :: r, n + 1 => am_get r n
def am_set : List AV → Nat → AV → List AV
  | [], _, _ => []
  | _ :: r, 0, v => v :: r
  | a :: r, n + 1, v => a :: am_set r n v
def am_exp : List AV → List AV
  | [] => []
  | (t, x) :: r => match t with
    | 1 => (1, x) :: (8, 0) :: am_exp r
    | 3 => (3, x) :: (8, 0) :: am_exp r
    | t => (t, x) :: am_exp r
def am_pad : Nat → List AV → List AV
  | 0, l => l
  | n + 1, [] => (9, 0) :: am_pad n []
  | n + 1, a :: l => a :: am_pad n l
def am_ent (n : Nat) (as : List AV) : List AV := am_pad n (am_exp as)
def am_pop : Nat → List AV → List AV → Option (List AV × List AV)
  | 0, acc, st => some (acc, st)
  | _ + 1, _, [] => none
  | n + 1, acc, v :: st => am_pop n (v :: acc) st
def am_cat : List AV → Nat
  | [] => 0
  | (t, _) :: r => (match t with
    | 1 => 2
    | 3 => 2
    | _ => 1) + am_cat r
def am_push (rt : Nat) (v : Int) (st : List AV) : List AV := match rt with
  | 9 => st
  | t => (t, v) :: st
/-- numbers of the language -/
def w32 (x : Int) : Int := x.bmod 4294967296
def w64 (x : Int) : Int := x.bmod 18446744073709551616
def am_and (a b : Int) : Int := (Int32.ofInt a &&& Int32.ofInt b).toInt
def am_or (a b : Int) : Int := (Int32.ofInt a ||| Int32.ofInt b).toInt
def am_xor (a b : Int) : Int := (Int32.ofInt a ^^^ Int32.ofInt b).toInt
def am_shl (a b : Int) : Int := (Int32.ofInt a <<< (Int32.ofInt b &&& 31)).toInt
def am_shr (a b : Int) : Int := (Int32.ofInt a >>> (Int32.ofInt b &&& 31)).toInt
def am_ushr (a b : Int) : Int := ((Int32.ofInt a).toUInt32 >>> ((Int32.ofInt b).toUInt32 &&& Int32.toUInt32 31)).toInt32.toInt
def am_i2b (a : Int) : Int := a.bmod 256
def am_i2c (a : Int) : Int := a % 65536
def am_land (a b : Int) : Int := (Int64.ofInt a &&& Int64.ofInt b).toInt
def am_i2d (a : Int) : Int := ((FP.i2d (Int32.ofInt a)).toNat : Int)
def am_dd (a b : Int) : UInt64 := FP.ddiv (UInt64.ofNat a.toNat) (UInt64.ofNat b.toNat)
def am_dm (a b : Int) : UInt64 := FP.dmul (UInt64.ofNat a.toNat) (UInt64.ofNat b.toNat)
def am_ds (a b : Int) : UInt64 := FP.dsub (UInt64.ofNat a.toNat) (UInt64.ofNat b.toNat)
/-- a double's bits as a long, and back -/
def am_d2l (a : Int) : Int := (UInt64.ofNat a.toNat).toInt64.toInt
def am_l2d (a : Int) : Int := ((Int64.ofInt a).toUInt64.toNat : Int)
/-- a double without its sign, and that it is a number -/
def am_dab (a : Int) : Int := ((UInt64.ofNat a.toNat &&& 0x7fffffffffffffff).toNat : Int)
def am_dnn (a : Int) : Bool := decide ((UInt64.ofNat a.toNat &&& 0x7fffffffffffffff) ≤ 0x7ff0000000000000)
/-- room for new cells below the place of null -/
def am_fr (h : AH) : Prop := am_n h < -5000 ∨ 0 ≤ am_n h
def am_dcl (a b : Int) : Int := (Op.cmpValue (FP.dcmp (UInt64.ofNat a.toNat) (UInt64.ofNat b.toNat)) .l).toInt
def am_dcg (a b : Int) : Int := (Op.cmpValue (FP.dcmp (UInt64.ofNat a.toNat) (UInt64.ofNat b.toNat)) .g).toInt
def am_lcmp (a b : Int) : Int := if b < a then 1 else if a = b then 0 else -1
/-- texts -/
def am_tx : List (List Int) := [[119, 97, 114, 100, 32, 99, 97, 112, 32, 112, 114, 111, 106, 101, 99, 116, 32, 99, 111, 115, 116, 32, 105, 110, 32, 103, 114, 111, 119, 115, 32, 118, 111, 116, 101, 114, 32, 108, 105, 107, 101, 115, 32, 98, 117, 100, 103, 101, 116, 32, 98, 97, 110, 32, 119, 104, 101, 110, 32, 121, 101, 97, 114, 32, 112, 111, 116, 32, 112, 117, 114, 115, 101, 32, 102, 97, 110, 115, 32, 98, 117, 105, 108, 116, 32, 112, 108, 101, 97, 115, 101, 100, 32, 110, 111, 116, 32, 97, 110, 100, 32, 111, 114, 32, 109, 105, 110, 32, 109, 97, 120, 32], [40, 41, 91, 93, 59, 44, 43, 45, 42, 47, 60, 62, 61], [112], [118], [121, 101, 97, 114, 47], [42], [61, 121, 101, 97, 114], [112, 111, 116, 60], [98, 117, 105, 108, 116, 32], [108, 105, 107, 101, 115, 32], [32], [99, 111, 115, 116, 32], [62, 53, 42], [110, 111, 116, 32, 102, 97, 110, 115, 32], [62, 61], [112, 117, 114, 115, 101, 32], [62], [32, 111, 114, 32, 112, 108, 101, 97, 115, 101, 100, 32], [109, 105, 110, 40, 112, 111, 116, 44], [41, 45, 121, 101, 97, 114, 60, 48, 32, 97, 110, 100, 32, 91, 121, 101, 97, 114, 62], [32, 111, 114, 32, 110, 111, 116, 32, 98, 117, 105, 108, 116, 32], [93], [119, 97, 114, 100, 32, 119], [32, 99, 97, 112, 32], [59], [98, 117, 100, 103, 101, 116, 32], [59, 10], [112, 114, 111, 106, 101, 99, 116, 32, 112], [32, 99, 111, 115, 116, 32], [32, 105, 110, 32, 119], [32, 103, 114, 111, 119, 115, 32], [118, 111, 116, 101, 114, 32, 118], [32, 108, 105, 107, 101, 115, 32, 112], [32, 112], [98, 97, 110, 32, 112], [32, 119, 104, 101, 110, 32]]
def am_tb (j i : Int) : Int := (am_tx.getD j.toNat []).getD i.toNat 0
def am_tn (j : Int) : Int := ((am_tx.getD j.toNat []).length : Int)
/-- the types of a class's fields, by its tag -/
def am_ft : Nat → List Nat
  | 1 => [0, 2, 2, 2, 2, 2, 2]
  | 2 => [2, 2, 0, 2, 2]
  | 3 => [0, 0, 0, 2, 2, 2, 0, 0, 2, 2, 2, 2, 2, 2, 0]
  | 4 => [0, 0, 0, 0, 0, 0, 2, 2, 2, 2, 2, 2, 2, 2, 2]
  | 5 => [2, 2, 2, 2, 2, 0, 0]
  | 6 => [2, 0, 0, 2, 2, 2, 2, 2, 2, 2]
  | 7 => [0, 0, 0, 0, 2, 2, 2, 2, 2, 0]
  | 8 => [2, 0, 0, 0]
  | 9 => [2, 0, 0, 0]
  | _ => []
def am_df (t : Nat) (k : Int) : Int := match (am_ft t).getD k.toNat 0 with
  | 2 => -1
  | _ => 0
def am_pI (st : List AV) (f : Int → List AV → ASh) : ASh := match st with
  | (0, a) :: r => f a r
  | _ => am_bad
def am_pL (st : List AV) (f : Int → List AV → ASh) : ASh := match st with
  | (1, a) :: r => f a r
  | _ => am_bad
def am_pR (st : List AV) (f : Int → List AV → ASh) : ASh := match st with
  | (2, a) :: r => f a r
  | _ => am_bad
def am_pA (st : List AV) (f : Int → List AV → ASh) (g : List AV → ASh) : ASh := match st with
  | (2, a) :: r => f a r
  | (10, _) :: r => g r
  | _ => am_bad
def am_pD (st : List AV) (f : Int → List AV → ASh) : ASh := match st with
  | (3, a) :: r => f a r
  | _ => am_bad
def am_few (r : List AV) (f : ASh) : ASh := match Nat.ble (am_cat r) 8 with
  | true => f
  | false => am_bad
/-- a value of one slot -/
def am_p1 (st : List AV) (f : AV → List AV → ASh) : ASh := match st with
  | (t, a) :: r => (match t with
    | 0 => f (0, a) r
    | 2 => f (2, a) r
    | _ => am_bad)
  | [] => am_bad
def am_ld (v : AV) (want : Nat) (f : AV → ASh) : ASh := match v with
  | (t, a) => (match t with
    | 0 => (match want with
      | 0 => f (0, a)
      | _ => am_bad)
    | 1 => (match want with
      | 1 => f (1, a)
      | _ => am_bad)
    | 2 => (match want with
      | 2 => f (2, a)
      | _ => am_bad)
    | 3 => (match want with
      | 3 => f (3, a)
      | _ => am_bad)
    | 4 => (match want with
      | 2 => f (4, a)
      | _ => am_bad)
    | 5 => (match want with
      | 2 => f (5, a)
      | _ => am_bad)
    | 7 => (match want with
      | 2 => f (7, a)
      | _ => am_bad)
    | 11 => (match want with
      | 2 => f (11, a)
      | _ => am_bad)
    | _ => am_bad)
/-- a long or double needs its second half -/
def am_ld2 (v w : AV) (want : Nat) (f : AV → ASh) : ASh := match w with
  | (8, _) => am_ld v want f
  | _ => am_bad
def am_st1 (ls : List AV) (i : Nat) (v : AV) : List AV := am_set ls i v
def am_st2 (ls : List AV) (i : Nat) (v : AV) : List AV := am_set (am_set ls i v) (i + 1) (8, 0)
def am_mk (o : Option Prop) (m : Nat) (as : List AV) (pc rt : Nat) (ccap cap : Nat × Nat) (ls r : List AV) (h : AH) (c s : Nat) : ASh := match ccap.1 + ccap.2 with
  | 0 => (match o with
    | none => am_cl m as pc rt (pc + 3, ls, r, h, c, s)
    | some p => am_cc p m as pc rt (pc + 3, ls, r, h, c, s))
  | _ + 1 => (match o with
    | none => am_cc (c + ccap.1 ≤ cap.1 ∧ s + ccap.2 ≤ cap.2) m as pc rt (pc + 3, ls, r, h, c + ccap.1, s + ccap.2)
    | some p => am_cc (p ∧ c + ccap.1 ≤ cap.1 ∧ s + ccap.2 ≤ cap.2) m as pc rt (pc + 3, ls, r, h, c + ccap.1, s + ccap.2))
/-- a call: r3 tells what the receiver has to be -/
def am_inv (r1 m r3 : Nat) (ccap cap : Nat × Nat) (cml na rt pc : Nat) (ls st : List AV) (h : AH) (c s : Nat) : ASh := match r1 with
  | 99 => am_bad
  | _ => (match am_pop na [] st with
    | none => am_bad
    | some (as, r) => (match Nat.ble (am_cat r) 8 && Nat.ble (am_cat as) cml with
      | false => am_bad
      | true => (match r3 with
        | 0 => am_mk none m as pc rt ccap cap ls r h c s
        | 60 => (match as with
          | (5, _) :: _ => am_mk none m as pc rt ccap cap ls r h c s
          | (2, a) :: _ => am_mk (some (am_t h a = 9 ∨ am_t h a = 18)) m as pc rt ccap cap ls r h c s
          | _ => am_bad)
        | 62 => (match as with
          | (2, a) :: _ => am_mk (some (¬ a = -1)) m as pc rt ccap cap ls r h c s
          | _ => am_bad)
        | 61 => (match as with
          | (2, a) :: _ => am_mk (some (0 ≤ a)) m as pc rt ccap cap ls r h c s
          | _ => am_bad)
        | k => (match as with
          | (2, a) :: _ => am_mk (some (am_t h a = k)) m as pc rt ccap cap ls r h c s
          | _ => am_bad))))
/-- what an instruction does; r1 r2 r3 zs: what it names, told by the tables; cap: the cells and slots that the method may make; na, rt: how many values the callee takes, and the type of what it answers; its cap -/
def am_ex (r1 r2 r3 : Nat) (zs : List (Int × Nat)) (cap ccap : Nat × Nat) (cml na rt : Nat) (pc ln : Nat) (ls st : List AV) (h : AH) (c s : Nat) : Instr → ASh
  | .iconst n => am_go (pc + ln, ls, (0, n) :: st, h, c, s)
  | .bipush n => am_go (pc + ln, ls, (0, n) :: st, h, c, s)
  | .sipush n => am_go (pc + ln, ls, (0, n) :: st, h, c, s)
  | .lconst n => am_go (pc + ln, ls, (1, (n.val : Int)) :: st, h, c, s)
  | .dconst n => (match n.val with
    | 0 => am_go (pc + ln, ls, (3, 0) :: st, h, c, s)
    | _ => am_bad)
  | .iload i => am_ld (am_get ls i) 0 fun v => am_go (pc + ln, ls, v :: st, h, c, s)
  | .iload_n i => am_ld (am_get ls i.val) 0 fun v => am_go (pc + ln, ls, v :: st, h, c, s)
  | .aload i => am_ld (am_get ls i) 2 fun v => am_go (pc + ln, ls, v :: st, h, c, s)
  | .aload_n i => am_ld (am_get ls i.val) 2 fun v => am_go (pc + ln, ls, v :: st, h, c, s)
  | .lload i => am_ld2 (am_get ls i) (am_get ls (i + 1)) 1 fun v => am_go (pc + ln, ls, v :: st, h, c, s)
  | .lload_n i => am_ld2 (am_get ls i.val) (am_get ls (i.val + 1)) 1 fun v => am_go (pc + ln, ls, v :: st, h, c, s)
  | .dload i => am_ld2 (am_get ls i) (am_get ls (i + 1)) 3 fun v => am_go (pc + ln, ls, v :: st, h, c, s)
  | .istore i => am_pI st fun a r => am_go (pc + ln, am_st1 ls i (0, a), r, h, c, s)
  | .istore_n i => am_pI st fun a r => am_go (pc + ln, am_st1 ls i.val (0, a), r, h, c, s)
  | .astore i => am_pA st (fun a r => (match r1 with
    | 0 => am_ck (0 ≤ a) (pc + ln, am_st1 ls i (2, a), r, h, c, s)
    | _ => am_ck (¬ a = -1) (pc + ln, am_st1 ls i (2, a), r, h, c, s))) (fun r => am_go (pc + ln, am_st1 ls i (9, 0), r, h, c, s))
  | .astore_n i => am_pA st (fun a r => (match r1 with
    | 0 => am_ck (0 ≤ a) (pc + ln, am_st1 ls i.val (2, a), r, h, c, s)
    | _ => am_ck (¬ a = -1) (pc + ln, am_st1 ls i.val (2, a), r, h, c, s))) (fun r => am_go (pc + ln, am_st1 ls i.val (9, 0), r, h, c, s))
  | .dload_n i => am_ld2 (am_get ls i.val) (am_get ls (i.val + 1)) 3 fun v => am_go (pc + ln, ls, v :: st, h, c, s)
  | .aconst_null => am_go (pc + ln, ls, (2, -1) :: st, h, c, s)
  | .lstore i => am_pL st fun a r => am_go (pc + ln, am_st2 ls i (1, a), r, h, c, s)
  | .lstore_n i => am_pL st fun a r => am_go (pc + ln, am_st2 ls i.val (1, a), r, h, c, s)
  | .dstore i => am_pD st fun a r => am_go (pc + ln, am_st2 ls i (3, a), r, h, c, s)
  | .iinc i n => am_ld (am_get ls i) 0 fun v => am_go (pc + ln, am_st1 ls i (0, w32 (v.2 + n)), st, h, c, s)
  | .iadd => am_pI st fun b r => am_pI r fun a r => am_go (pc + ln, ls, (0, w32 (a + b)) :: r, h, c, s)
  | .isub => am_pI st fun b r => am_pI r fun a r => am_go (pc + ln, ls, (0, w32 (a - b)) :: r, h, c, s)
  | .imul => am_pI st fun b r => am_pI r fun a r => am_go (pc + ln, ls, (0, w32 (a * b)) :: r, h, c, s)
  | .idiv => am_pI st fun b r => am_pI r fun a r => am_ck (¬ b = 0) (pc + ln, ls, (0, w32 (a.tdiv b)) :: r, h, c, s)
  | .irem => am_pI st fun b r => am_pI r fun a r => am_ck (¬ b = 0) (pc + ln, ls, (0, a.tmod b) :: r, h, c, s)
  | .ineg => am_pI st fun a r => am_go (pc + ln, ls, (0, w32 (-a)) :: r, h, c, s)
  | .iand => am_pI st fun b r => am_pI r fun a r => am_go (pc + ln, ls, (0, am_and a b) :: r, h, c, s)
  | .ior => am_pI st fun b r => am_pI r fun a r => am_go (pc + ln, ls, (0, am_or a b) :: r, h, c, s)
  | .ixor => am_pI st fun b r => am_pI r fun a r => am_go (pc + ln, ls, (0, am_xor a b) :: r, h, c, s)
  | .ishl => am_pI st fun b r => am_pI r fun a r => am_go (pc + ln, ls, (0, am_shl a b) :: r, h, c, s)
  | .ishr => am_pI st fun b r => am_pI r fun a r => am_go (pc + ln, ls, (0, am_shr a b) :: r, h, c, s)
  | .iushr => am_pI st fun b r => am_pI r fun a r => am_go (pc + ln, ls, (0, am_ushr a b) :: r, h, c, s)
  | .i2l => am_pI st fun a r => am_go (pc + ln, ls, (1, a) :: r, h, c, s)
  | .i2b => am_pI st fun a r => am_go (pc + ln, ls, (0, am_i2b a) :: r, h, c, s)
  | .i2c => am_pI st fun a r => am_go (pc + ln, ls, (0, am_i2c a) :: r, h, c, s)
  | .i2d => am_pI st fun a r => am_go (pc + ln, ls, (3, am_i2d a) :: r, h, c, s)
  | .l2i => am_pL st fun a r => am_go (pc + ln, ls, (0, w32 a) :: r, h, c, s)
  | .ladd => am_pL st fun b r => am_pL r fun a r => am_go (pc + ln, ls, (1, w64 (a + b)) :: r, h, c, s)
  | .lsub => am_pL st fun b r => am_pL r fun a r => am_go (pc + ln, ls, (1, w64 (a - b)) :: r, h, c, s)
  | .lmul => am_pL st fun b r => am_pL r fun a r => am_go (pc + ln, ls, (1, w64 (a * b)) :: r, h, c, s)
  | .land => am_pL st fun b r => am_pL r fun a r => am_go (pc + ln, ls, (1, am_land a b) :: r, h, c, s)
  | .lcmp => am_pL st fun b r => am_pL r fun a r => am_go (pc + ln, ls, (0, am_lcmp a b) :: r, h, c, s)
  | .ddiv => am_pD st fun b r => am_pD r fun a r => am_ck (vf_n64 (am_dd a b)) (pc + ln, ls, (3, ((am_dd a b).toNat : Int)) :: r, h, c, s)
  | .dmul => am_pD st fun b r => am_pD r fun a r => am_ck (vf_n64 (am_dm a b)) (pc + ln, ls, (3, ((am_dm a b).toNat : Int)) :: r, h, c, s)
  | .dsub => am_pD st fun b r => am_pD r fun a r => am_ck (vf_n64 (am_ds a b)) (pc + ln, ls, (3, ((am_ds a b).toNat : Int)) :: r, h, c, s)
  | .dcmp op => am_pD st fun b r => am_pD r fun a r => (match op with
    | .l => am_go (pc + ln, ls, (0, am_dcl a b) :: r, h, c, s)
    | .g => am_go (pc + ln, ls, (0, am_dcg a b) :: r, h, c, s))
  | .dup => am_p1 st fun v r => am_go (pc + ln, ls, v :: v :: r, h, c, s)
  | .pop => am_p1 st fun _ r => am_go (pc + ln, ls, r, h, c, s)
  | .dup2 => am_p1 st fun v r => am_p1 r fun w r => am_go (pc + ln, ls, v :: w :: v :: w :: r, h, c, s)
  | .ifCond cd _ => am_pI st fun a r => (match cd with
    | .eq => am_br (a = 0) (r1, ls, r, h, c, s) (pc + ln, ls, r, h, c, s)
    | .ne => am_br (a = 0) (pc + ln, ls, r, h, c, s) (r1, ls, r, h, c, s)
    | .lt => am_br (a < 0) (r1, ls, r, h, c, s) (pc + ln, ls, r, h, c, s)
    | .ge => am_br (a < 0) (pc + ln, ls, r, h, c, s) (r1, ls, r, h, c, s)
    | .gt => am_br (0 < a) (r1, ls, r, h, c, s) (pc + ln, ls, r, h, c, s)
    | .le => am_br (0 < a) (pc + ln, ls, r, h, c, s) (r1, ls, r, h, c, s))
  | .if_icmp cd _ => am_pI st fun b r => am_pI r fun a r => (match cd with
    | .eq => am_br (a = b) (r1, ls, r, h, c, s) (pc + ln, ls, r, h, c, s)
    | .ne => am_br (a = b) (pc + ln, ls, r, h, c, s) (r1, ls, r, h, c, s)
    | .lt => am_br (a < b) (r1, ls, r, h, c, s) (pc + ln, ls, r, h, c, s)
    | .ge => am_br (a < b) (pc + ln, ls, r, h, c, s) (r1, ls, r, h, c, s)
    | .gt => am_br (b < a) (r1, ls, r, h, c, s) (pc + ln, ls, r, h, c, s)
    | .le => am_br (b < a) (pc + ln, ls, r, h, c, s) (r1, ls, r, h, c, s))
  | .ifnull _ => am_pR st fun a r => am_br (a = -1) (r1, ls, r, h, c, s) (pc + ln, ls, r, h, c, s)
  | .ifnonnull _ => am_pR st fun a r => am_br (a = -1) (pc + ln, ls, r, h, c, s) (r1, ls, r, h, c, s)
  | .goto _ => am_go (r1, ls, st, h, c, s)
  | .tableswitch _ _ _ _ => am_pI st fun a r => am_sw a (zs.map fun z => (z.1, (z.2, ls, r, h, c, s))) (r1, ls, r, h, c, s)
  | .lookupswitch _ _ => am_pI st fun a r => am_sw a (zs.map fun z => (z.1, (z.2, ls, r, h, c, s))) (r1, ls, r, h, c, s)
  | .getfield _ => (match r3 with
    | 50 => (match st with
      | (5, j) :: r => am_go (pc + ln, ls, (7, j) :: r, h, c, s)
      | (2, a) :: r => am_ck (am_t h a = 9 ∨ am_t h a = 18) (pc + ln, ls, (2, am_m h a 0) :: r, h, c, s)
      | _ => am_bad)
    | 51 => (match st with
      | (5, _) :: r => am_go (pc + ln, ls, (0, 0) :: r, h, c, s)
      | (2, a) :: r => am_ck (am_t h a = 9 ∨ am_t h a = 18) (pc + ln, ls, (0, am_m h a 1) :: r, h, c, s)
      | _ => am_bad)
    | 0 => am_pR st fun a r => am_ck (am_t h a = r1) (pc + ln, ls, (0, am_m h a (r2 : Int)) :: r, h, c, s)
    | 2 => am_pR st fun a r => am_ck (am_t h a = r1) (pc + ln, ls, (2, am_m h a (r2 : Int)) :: r, h, c, s)
    | _ => am_bad)
  | .putfield _ => (match r3 with
    | 0 => am_pI st fun v r => am_pR r fun a r => am_ck (am_t h a = r1) (pc + ln, ls, r, am_w h a (r2 : Int) v, c, s)
    | 2 => am_pR st fun v r => am_pR r fun a r => am_ck (am_t h a = r1) (pc + ln, ls, r, am_w h a (r2 : Int) v, c, s)
    | 4 => am_pI st fun v r => am_pR r fun a r => am_ck (am_t h a = r1 ∧ v = 0) (pc + ln, ls, r, am_w h a (r2 : Int) v, c, s)
    | _ => am_bad)
  | .getstatic _ => (match r3 with
    | 60 => am_go (pc + ln, ls, (0, 1) :: st, h, c, s)
    | 62 => am_go (pc + ln, ls, (11, 0) :: st, h, c, s)
    | 63 => am_go (pc + ln, ls, (2, -300000073) :: st, h, c, s)
    | 64 => am_go (pc + ln, ls, (2, -300000075) :: st, h, c, s)
    | _ => am_bad)
  | .iaload => am_pI st fun i r => (match r with
    | (2, a) :: r => am_ck (am_t h a = 20 ∧ 0 ≤ i ∧ i < am_l h a) (pc + ln, ls, (0, am_m h a i) :: r, h, c, s)
    | (4, _) :: r => am_ck (0 ≤ i ∧ i < am_sl h) (pc + ln, ls, (0, am_sx h i) :: r, h, c, s)
    | _ => am_bad)
  | .baload => am_pI st fun i r => (match r with
    | (2, a) :: r => (match r1 with
      | 0 => am_ck (am_t h a = 21 ∧ 0 ≤ i ∧ i < am_l h a) (pc + ln, ls, (0, am_m h a i) :: r, h, c, s)
      | 1 => am_ck ((am_t h a = 21 ∨ am_t h a = 26) ∧ 0 ≤ i ∧ i < am_l h a) (pc + ln, ls, (0, am_m h a i) :: r, h, c, s)
      | _ => am_ck (am_t h a = 23 ∧ 0 ≤ i ∧ i < am_l h a) (pc + ln, ls, (0, am_m h a i) :: r, h, c, s))
    | (7, j) :: r => am_ck (0 ≤ i ∧ i < am_tn j) (pc + ln, ls, (0, am_tb j i) :: r, h, c, s)
    | _ => am_bad)
  | .laload => am_pI st fun i r => am_pR r fun a r => am_ck (am_t h a = 22 ∧ 0 ≤ i ∧ i < am_l h a) (pc + ln, ls, (1, am_m h a i) :: r, h, c, s)
  | .aaload => am_pI st fun i r => am_pR r fun a r => am_ck ((am_t h a = 24 ∨ am_t h a = 25) ∧ 0 ≤ i ∧ i < am_l h a) (pc + ln, ls, (2, am_m h a i) :: r, h, c, s)
  | .aastore => am_pR st fun v r => am_pI r fun i r => am_pR r fun a r => am_ck ((am_t h a = 24 ∧ am_t h v = 20 ∨ am_t h a = 25 ∧ am_t h v = 23) ∧ 0 ≤ i ∧ i < am_l h a) (pc + ln, ls, r, am_w h a i v, c, s)
  | .iastore => am_pI st fun v r => am_pI r fun i r => am_pR r fun a r => am_ck (am_t h a = 20 ∧ 0 ≤ i ∧ i < am_l h a) (pc + ln, ls, r, am_w h a i v, c, s)
  | .bastore => am_pI st fun v r => am_pI r fun i r => am_pR r fun a r => (match r1 with
    | 2 => am_ck (am_t h a = 23 ∧ (v = 0 ∨ v = 1) ∧ 0 ≤ i ∧ i < am_l h a) (pc + ln, ls, r, am_w h a i v, c, s)
    | _ => am_ck (am_t h a = 21 ∧ 0 ≤ i ∧ i < am_l h a) (pc + ln, ls, r, am_w h a i (am_i2b v), c, s))
  | .lastore => am_pL st fun v r => am_pI r fun i r => am_pR r fun a r => am_ck (am_t h a = 22 ∧ 0 ≤ i ∧ i < am_l h a) (pc + ln, ls, r, am_w h a i v, c, s)
  | .arraylength => (match st with
    | (2, a) :: r => (match r1 with
      | 0 => am_ck (20 ≤ am_t h a ∧ am_t h a ≤ 22) (pc + ln, ls, (0, am_l h a) :: r, h, c, s)
      | _ => am_ck (20 ≤ am_t h a ∧ am_t h a ≤ 26) (pc + ln, ls, (0, am_l h a) :: r, h, c, s))
    | (4, _) :: r => am_go (pc + ln, ls, (0, am_sl h) :: r, h, c, s)
    | (7, j) :: r => am_go (pc + ln, ls, (0, am_tn j) :: r, h, c, s)
    | _ => am_bad)
  | .newarray _ => am_pI st fun n r => am_ck (((0 ≤ n ∧ n ≤ 4096) ∧ am_fr h) ∧ c + 1 ≤ cap.1 ∧ s + n.toNat ≤ cap.2) (pc + ln, ls, (2, am_n h) :: r, am_a h r1 n (fun _ => 0), c + 1, s + n.toNat)
  | .anewarray _ => am_pI st fun n r => am_ck (((0 ≤ n ∧ n ≤ 4096) ∧ am_fr h) ∧ c + 1 ≤ cap.1 ∧ s + n.toNat ≤ cap.2) (pc + ln, ls, (2, am_n h) :: r, am_a h r1 n (fun _ => -1), c + 1, s + n.toNat)
  | .multianewarray _ _ => am_pI st fun m r => am_pI r fun n r => am_ck (((0 ≤ n ∧ n ≤ 64 ∧ 0 ≤ m ∧ m ≤ 64) ∧ am_fr h) ∧ c + (1 + n.toNat) ≤ cap.1 ∧ s + (n.toNat + n.toNat * m.toNat) ≤ cap.2) (pc + ln, ls, (2, am_n h) :: r, am_mk2 h r1 r2 n m, c + (1 + n.toNat), s + (n.toNat + n.toNat * m.toNat))
  | .checkcast _ => am_pR st fun a r => am_ck (am_t h a = r1) (pc + ln, ls, (2, a) :: r, h, c, s)
  | .new _ => (match r3 with
    | 0 => am_ck (am_fr h ∧ c + 1 ≤ cap.1 ∧ s + r2 ≤ cap.2) (pc + ln, ls, (2, am_n h) :: st, am_a h r1 (r2 : Int) (am_df r1), c + 1, s + r2)
    | k => (match st with
      | [] => am_th (c + 1 ≤ cap.1 ∧ s + 6 ≤ cap.2) k h
      | _ => am_bad))
  | .ldc _ => (match zs with
    | (v, t) :: _ => am_go (pc + ln, ls, (t, v) :: st, h, c, s)
    | [] => am_bad)
  | .ldc_w _ => (match zs with
    | (v, t) :: _ => am_go (pc + ln, ls, (t, v) :: st, h, c, s)
    | [] => am_bad)
  | .ldc2_w _ => (match zs with
    | (v, t) :: _ => am_go (pc + ln, ls, (t, v) :: st, h, c, s)
    | [] => am_bad)
  | .invokevirtual _ => (match r1 with
    | 16 => am_pR st fun a r => am_few r (am_ck ((am_t h a = r3 ∧ am_fr h) ∧ c + 1 ≤ cap.1 ∧ s + (am_l h a).toNat ≤ cap.2) (pc + ln, ls, (2, am_n h) :: r, am_a h r3 (am_l h a) (am_m h a), c + 1, s + (am_l h a).toNat))
    | _ => am_inv r1 r2 r3 ccap cap cml na rt pc ls st h c s)
  | .invokespecial _ => (match r1 with
    | 6 => am_pR st fun a r => am_few r (am_ck (0 ≤ a) (pc + ln, ls, r, h, c, s))
    | 17 => am_pR st fun a r => am_few r (am_ck (¬ a = -1) (pc + ln, ls, r, h, c, s))
    | _ => am_inv r1 r2 r3 ccap cap cml na rt pc ls st h c s)
  | .invokestatic _ => (match r1 with
    | 7 => am_pI st fun b r => am_pI r fun a r => am_few r (am_go (pc + ln, ls, (0, min a b) :: r, h, c, s))
    | 8 => am_pI st fun b r => am_pI r fun a r => am_few r (am_go (pc + ln, ls, (0, max a b) :: r, h, c, s))
    | 11 => am_pI st fun n r => am_pI r fun j r => am_pR r fun b r => am_pI r fun i r => am_pR r fun a r => am_few r <| am_ck ((am_t h a = 21 ∨ am_t h a = 26) ∧ am_t h b = 21 ∧ ¬ a = b ∧ 0 ≤ n ∧ 0 ≤ i ∧ i + n ≤ am_l h a ∧ 0 ≤ j ∧ j + n ≤ am_l h b) (pc + ln, ls, r, am_cp h a i b j n, c, s)
    | 18 => am_pD st fun a r => am_few r (am_go (pc + ln, ls, (1, am_d2l a) :: r, h, c, s))
    | 19 => am_pD st fun a r => am_few r (am_ck (am_dnn a = true) (pc + ln, ls, (3, am_dab a) :: r, h, c, s))
    | _ => am_inv r1 r2 r3 ccap cap cml na rt pc ls st h c s)
  | .ireturn => am_pI st fun v r => (match r with
    | [] => (match r1 with
      | 0 => am_rt v h
      | 1 => am_rc (v = 0 ∨ v = 1) v h
      | 2 => am_rc (0 ≤ v ∧ v < 65536) v h
      | 3 => am_rc (-128 ≤ v ∧ v < 128) v h
      | _ => am_bad)
    | _ => am_bad)
  | .lreturn => am_pL st fun v r => (match r with
    | [] => am_rt v h
    | _ => am_bad)
  | .dreturn => am_pD st fun v r => (match r with
    | [] => am_rt v h
    | _ => am_bad)
  | .areturn => am_pR st fun v r => (match r with
    | [] => am_rt v h
    | _ => am_bad)
  | .return_ => (match st with
    | [] => am_rt 0 h
    | _ => am_bad)
  | _ => am_bad
