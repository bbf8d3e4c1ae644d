/-! ===== calls, ends and throws ===== -/
/-- the instruction at a method's end and what stands on the stack there -/
def am_rok (G : am_En) (m pc : Nat) (r : Int) (st : List Value) : Prop :=
  (decode (am_cd m) pc = .ok (.ireturn, 1) ∧ ∃ (x : Int32) (ty : FieldType), st = [.int x] ∧ r = x.toInt ∧ am_re m = some ty ∧ narrow ty (.int x) = .int x ∧ am_rtt m = 0) ∨
  (decode (am_cd m) pc = .ok (.lreturn, 1) ∧ ∃ x : Int64, st = [.long x] ∧ r = x.toInt ∧ am_re m = some .long ∧ am_rtt m = 1) ∨
  (decode (am_cd m) pc = .ok (.dreturn, 1) ∧ ∃ x : UInt64, st = [.double x] ∧ r = (x.toNat : Int) ∧ am_re m = some .double ∧ am_rtt m = 3) ∨
  (decode (am_cd m) pc = .ok (.areturn, 1) ∧ ∃ (V : Value) (rt : FieldType), st = [V] ∧ am_RV G (2, r) V ∧ am_re m = some rt ∧ ((∃ n, rt = .object n) ∨ ∃ t, rt = .array t) ∧ am_rtt m = 2) ∨
  (decode (am_cd m) pc = .ok (.return_, 1) ∧ st = [] ∧ am_re m = none ∧ am_rtt m = 9)
/-- the five instructions of a throw -/
def am_tok (m pc k : Nat) : Prop := ∃ (ik is ic : Nat) (tx : String), 1 ≤ k ∧ k ≤ 3 ∧ decode (am_cd m) pc = .ok (.new ik, 3) ∧ decode (am_cd m) (pc + 3) = .ok (.dup, 1) ∧ decode (am_cd m) (pc + 4) = .ok (.ldc is, 2) ∧ decode (am_cd m) (pc + 6) = .ok (.invokespecial ic, 3) ∧ decode (am_cd m) (pc + 9) = .ok (.athrow, 1) ∧
  Cond.classLink (am_mn m).cls ik (am_en k) ∈ am_W ∧ Cond.initialized (am_en k) ∈ am_W ∧ ((am_mn m).cls, is, tx) ∈ am_msg ∧ (∀ w ∈ vx_atS (am_mn m).cls ic (am_en k) ["java/lang/RuntimeException", "java/lang/Exception"], (w ∈ am_W ∨ (w ∈ lw_tbl ∧ am_isN w = true)) ∧ vx_ot w = true) ∧ am_hh m = []
def am_End (G : am_En) (m : Nat) (K : AK) (p : Program) (l : Launch) (e : Env) (R : Room) (s : State) (mth : MethodId) (args : Array Value) (below : List Frame) (meth : Method) (cd : Code) (Q : State → Prop) : Prop :=
  (∀ (H : Heap) (locs : List Loc) (arr : Array Slot) (st : List Value) (h : AH) (r : Int) (pc c s0 : Nat), K 0 r h → am_rok G m pc r st → am_HM G h H → va_S (fun q => eS G ≤ q) s.heap H locs → c ≤ R.cells → s0 ≤ R.slots → W p l e R s mth args below meth cd H locs c s0 Q (F0 mth pc arr st)) ∧
  (∀ (H : Heap) (locs : List Loc) (arr : Array Slot) (st : List Value) (ast : List AV) (h : AH) (pc k c s0 : Nat), (∀ n : Int, am_n h ≤ n → K k 0 (am_sn h n)) → am_tok m pc k → arr.size = am_ml m → am_RS G ast st → am_cat ast ≤ 8 → am_HM G h H → va_S (fun q => eS G ≤ q) s.heap H locs → c + 1 ≤ R.cells → s0 + 6 ≤ R.slots → W p l e R s mth args below meth cd H locs c s0 Q (F0 mth pc arr st))
def am_Sim (G : am_En) (l : Launch) : AX := fun d m c K => ∀ (p : Program) (e : Env) (R : Room) (s : State) (mth : MethodId) (args : Array Value) (below : List Frame) (meth : Method) (cd : Code) (Q : State → Prop), am_Cx G l d m p R s mth args meth cd → cd.exceptionTable.toList = tableOf (am_hh m) → am_End G m K p l e R s mth args below meth cd Q → am_Gl G m p l e R s mth args below meth cd Q c
def am_Pc (G : am_En) (as : List AV) (h : AH) : Array Value → State → Prop := fun v U => ∃ vs : List Value, v = vs.toArray ∧ am_RS G as vs ∧ am_HM G h U.heap ∧ am_WK G U U.heap
def am_rvO (G : am_En) (rt : Nat) (r : Int) (v : Option Value) : Prop := (rt = 9 ∧ v = none) ∨ (rt ≠ 9 ∧ ∃ V, v = some V ∧ am_RV G (rt, r) V)
def am_Qc (G : am_En) (rt : Nat) (K : AK) : Array Value → State → Outcome → State → Prop := fun _ st o t => ∃ (v : Option Value) (r : Int) (h' : AH), o = .returned v ∧ am_rvO G rt r v ∧ K 0 r h' ∧ am_HM G h' t.heap ∧ va_F (fun q => eS G ≤ q) st t
def am_XC (G : am_En) (K : AK) : String → State → State → Prop := fun E st t => ∃ (k : Nat) (h' : AH), 1 ≤ k ∧ k ≤ 3 ∧ E = am_en k ∧ K k 0 h' ∧ am_HM G h' t.heap ∧ va_F (fun q => eS G ≤ q) st t
def am_rm (d m : Nat) : Room := { frames := d + 8, cells := (am_cap m).1, slots := (am_cap m).2, locals := 40 * d + 200 }
theorem am_Pc_blind {G : am_En} {as : List AV} {h : AH} : FrameBlind (am_Pc G as h) := by
  intro a U g mk ⟨vs, e1, e2, e3, e4⟩
  exact ⟨vs, e1, e2, e3, am_WK.warm (State.WarmedH.refl U) e4⟩
theorem am_exp_ok {G : am_En} : ∀ {as : List AV} {vs : List Value}, am_RS G as vs → (am_exp as).length = (lg_sl vs).length ∧ (am_exp as).length = am_cat as ∧ ∀ i, am_hold (am_exp as) i → (((am_get (am_exp as) i).1 = 1 ∨ (am_get (am_exp as) i).1 = 3) → (am_get (am_exp as) (i + 1)).1 = 8) → ∃ V, (lg_sl vs)[i]? = some (.val V) ∧ am_RV G (am_get (am_exp as) i) V
  | [], [], _ => ⟨rfl, rfl, fun i hi => by simp [am_hold, am_exp, am_get] at hi⟩
  | [], _ :: _, h => h.elim
  | _ :: _, [], h => h.elim
  | (t, x) :: r, V :: vs, h => by
    obtain ⟨h1, h2⟩ := h
    obtain ⟨e1, e2, e3⟩ := am_exp_ok h2
    have hcat := am_RV_cat h1
    by_cases ht : t = 1 ∨ t = 3
    · have hc2 : V.category = 2 := by rw [hcat]; rcases ht with rfl | rfl <;> rfl
      have el : lg_sl (V :: vs) = .val V :: .second :: lg_sl vs := by simp [lg_sl, hc2]
      have ea : am_exp ((t, x) :: r) = (t, x) :: (8, 0) :: am_exp r := by rcases ht with rfl | rfl <;> rfl
      have ec : am_cat ((t, x) :: r) = 2 + am_cat r := by rcases ht with rfl | rfl <;> rfl
      rw [el, ea, ec]
      refine ⟨by simp [e1], by simp only [List.length_cons, e2]; omega, fun i hi hi2 => ?_⟩
      match i, hi, hi2 with
      | 0, hi, hi2 => exact ⟨V, rfl, h1⟩
      | 1, hi, hi2 => simp [am_hold, am_get] at hi
      | i + 2, hi, hi2 => exact e3 i hi hi2
    · have hc1 : ¬ V.category = 2 := by
        rw [hcat]
        intro z
        apply ht
        match t, z with
        | 1, _ => exact Or.inl rfl
        | 3, _ => exact Or.inr rfl
        | 0, z => simp [am_cat] at z
        | 2, z => simp [am_cat] at z
        | n + 4, z => simp [am_cat] at z
      have el : lg_sl (V :: vs) = .val V :: lg_sl vs := by simp [lg_sl, hc1]
      have ea : am_exp ((t, x) :: r) = (t, x) :: am_exp r := by
        match t, ht with
        | 0, _ => rfl
        | 2, _ => rfl
        | 1, ht => simp at ht
        | 3, ht => simp at ht
        | n + 4, _ => rfl
      have ec : am_cat ((t, x) :: r) = 1 + am_cat r := by
        match t, ht with
        | 0, _ => rfl
        | 2, _ => rfl
        | 1, ht => simp at ht
        | 3, ht => simp at ht
        | n + 4, _ => rfl
      rw [el, ea, ec]
      refine ⟨by simp [e1], by simp only [List.length_cons, e2]; omega, fun i hi hi2 => ?_⟩
      match i, hi, hi2 with
      | 0, hi, hi2 => exact ⟨V, rfl, h1⟩
      | i + 1, hi, hi2 => exact e3 i hi hi2
theorem am_get_pad : ∀ {n : Nat} {l : List AV} {i : Nat}, am_get (am_pad n l) i = if i < l.length then am_get l i else (9, 0)
  | 0, l, i => by
    unfold am_pad
    by_cases h : i < l.length
    · rw [if_pos h]
    · rw [if_neg h, am_get_out (by omega)]
  | n + 1, [], 0 => by simp [am_pad, am_get]
  | n + 1, [], i + 1 => by
    simp only [am_pad, am_get]
    rw [am_get_pad]
    simp
  | n + 1, a :: l, 0 => by simp [am_pad, am_get]
  | n + 1, a :: l, i + 1 => by
    simp only [am_pad, am_get]
    rw [am_get_pad]
    simp
theorem am_len_pad : ∀ {n : Nat} {l : List AV}, l.length ≤ n → (am_pad n l).length = n
  | 0, l, h => by simpa [am_pad] using h
  | n + 1, [], h => by simp [am_pad, am_len_pad (n := n) (l := [])]
  | n + 1, a :: l, h => by simp [am_pad, am_len_pad (n := n) (l := l) (by simpa using h)]
theorem am_entry {G : am_En} {n : Nat} {as : List AV} {vs : List Value} (h : am_RS G as vs) (hn : am_cat as ≤ n) : am_RL G n (am_ent n as) ((lg_sl vs ++ List.replicate (n - (lg_sl vs).length) Slot.unset).toArray) := by
  obtain ⟨e1, e2, e3⟩ := am_exp_ok h
  have hl := lv_entry vs (n := n) (by omega)
  refine ⟨hl.1, am_len_pad (by omega), hl.2.1, fun i hi hi2 => ?_⟩
  unfold am_ent am_hold at hi
  unfold am_ent at hi2 ⊢
  rw [am_get_pad] at hi hi2 ⊢
  by_cases hlt : i < (am_exp as).length
  · rw [if_pos hlt] at hi hi2 ⊢
    obtain ⟨V, f1, f2⟩ := e3 i hi (fun hc => by
      have := hi2 hc
      rw [am_get_pad] at this
      by_cases h3 : i + 1 < (am_exp as).length
      · rw [if_pos h3] at this; exact this
      · rw [if_neg h3] at this; simp at this)
    refine ⟨V, ?_, f2⟩
    rw [List.getElem?_toArray, List.getElem?_append_left (by omega)]
    exact f1
  · rw [if_neg hlt] at hi
    simp at hi
theorem am_W_good {w : Cond} (h : w ∈ am_W) : (w.onTables && w.keeps) = true ∨ ∃ ty, w = .arrayClass ty := good_of_word (List.mem_filter.mp h).2
theorem am_isN_ot {w : Cond} (h : am_isN w = true) : w.onTables = true := by
  cases w <;> first | rfl | cases h
theorem am_his {y : MethodName} {ws ws' : List Cond} {rm : Room} {cc : ByteArray} {maxL : Nat} {ret : Option FieldType} (hw : ws = Cond.code y cc maxL ret :: ws') :
    ∀ args (s : State) m, (headSpec ws rm).pre.before args s = true → s.methodNamed? y = some m → ∃ meth c, s.vm.method? m = some meth ∧ meth.code = some c ∧ c.code = cc ∧ c.maxLocals = maxL ∧ meth.sig.returnType = ret ∧ meth.locks = false ∧ c.exceptionTable.isEmpty = true := by
  intro args s m h hn
  obtain ⟨meth, c, h1, h2, h3, h4, h5, h6, h7, -⟩ := Cond.code_spec hn (atoms_spec (ws := ws) h _ (by rw [hw]; exact List.mem_cons_self))
  exact ⟨meth, c, h1, h2, h3, h4, h5, h6, h7⟩
theorem am_his' {y : MethodName} {ws ws' : List Cond} {rm : Room} {cc : ByteArray} {maxL : Nat} {ret : Option FieldType} (hw : ws = Cond.code y cc maxL ret :: ws') :
    ∀ args (s : State) m, (headSpec ws rm).pre.before args s = true → s.methodNamed? y = some m → ∃ meth c, s.vm.method? m = some meth ∧ meth.code = some c ∧ c.code = cc ∧ c.maxLocals = maxL ∧ meth.sig.returnType = ret ∧ meth.locks = false := fun args s m h hn => by
  obtain ⟨meth, c, h1, h2, h3, h4, h5, h6, -⟩ := am_his hw args s m h hn
  exact ⟨meth, c, h1, h2, h3, h4, h5, h6⟩
section OFW
variable {l : Launch} {y : MethodName} {ws ws' : List Cond} {rm : Room} {Pc : Array Value → State → Prop} {Qc : Array Value → State → Outcome → State → Prop} {mc ms : Nat} {free : Addr → Prop} {cc : ByteArray} {maxL : Nat} {ret : Option FieldType}
theorem am_ofW (hy : plainFor y = true) (hw : ws = Cond.code y cc maxL ret :: ws')
    (body : ∀ p e s m args below meth c s₁, BodyLoose p l y (headSpec ws rm) cc maxL ret e s m args below meth c s₁ → c.maxLocals = maxL → Pc args s →
      W p l e (headSpec ws rm).room s m args below meth c s.heap [] 0 0 (MQ below Qc args s mc ms free) (entryFrame m args maxL)) : Met l y ws rm Pc Qc mc ms free :=
  MetFree.of_bodySF (code := cc) (maxLocals := maxL) (ret := ret) hy (am_his' hw) (fun p e s m args below meth c s₁ B hl hP _ => by
    obtain ⟨t, a, o, b, g, k⟩ := body p e s m args below meth c s₁ B hl hP s₁ (by rw [B.state]; rfl) (Stand.of_body B)
    exact ⟨t, o, a, b, g, k.1, k.2⟩)
theorem am_ofV {XC : String → State → State → Prop} (hy : plainFor y = true) (hw : ws = Cond.code y cc maxL ret :: ws')
    (body : ∀ p e s m args below meth c s₁, BodyLoose p l y (headSpec ws rm) cc maxL ret e s m args below meth c s₁ → c.maxLocals = maxL → (∀ x ∈ c.exceptionTable.toList, False) → Pc args s →
      W p l e (headSpec ws rm).room s m args below meth c s.heap [] 0 0 (vx_MQ below Qc XC args s mc ms free) (entryFrame m args maxL)) : vx_Met l y ws rm Pc Qc XC mc ms free :=
  MetFree.of_bodySF (code := cc) (maxLocals := maxL) (ret := ret) hy (am_his' hw) (fun p e s m args below meth c s₁ B hl hP _ => by
    have hx : ∀ x ∈ c.exceptionTable.toList, False := by
      obtain ⟨mt, cd, h1, h2, -, -, -, -, h7⟩ := am_his hw args s m B.pre B.named
      cases Option.some.inj (h1.symm.trans B.method)
      cases Option.some.inj (h2.symm.trans (Stand.of_body B).code)
      intro x hx
      simp [Array.isEmpty_iff.mp h7] at hx
    obtain ⟨t, a, o, b, g, k⟩ := body p e s m args below meth c s₁ B hl hx hP s₁ (by rw [B.state]; rfl) (Stand.of_body B)
    exact ⟨t, o, a, b, g, k⟩)
end OFW
section MET
variable {G : am_En} {l : Launch} {d m : Nat} {as : List AV} {h : AH} {K : AK}
/-- what is so of a method, whoever calls it -/
def am_mok (m : Nat) : Prop := plainFor (am_mn m) = true ∧ am_ml m ≤ 21 ∧ ((am_mn m).cls ≠ "java/lang/invoke/MethodHandle" ∧ (am_mn m).cls ≠ "java/lang/invoke/VarHandle") ∧ (if am_hh m = [] then Cond.code (am_mn m) (am_cd m) (am_ml m) (am_re m) ∈ am_W else Cond.codeWith (am_mn m) (am_cd m) (am_ml m) (am_re m) (am_hh m) ∈ am_W)
theorem am_Cx_of {Y : MethodName} {ws : List Cond} {p : Program} {e : Env} {s s₁ : State} {mth : MethodId} {args : Array Value} {below : List Frame} {meth : Method} {cd : Code} (B : BodyLoose p l Y (headSpec ws (am_rm d m)) (am_cd m) (am_ml m) (am_re m) e s mth args below meth cd s₁) (hY : Y = am_mn m) (hml : cd.maxLocals = am_ml m) (hws : ∀ w ∈ am_W, w ∈ ws) (htr : l.stackTraces = false) (hWK : am_WK G s s.heap) :
    am_Cx G l d m p (headSpec ws (am_rm d m)).room s mth args meth cd := by
  subst hY
  have hts := atoms_spec (ws := ws) B.pre
  exact ⟨B.exec, B.bytes, hml, findClass_of_methodNamed B.named, fun w hw => hts w (hws w hw), hWK, ⟨Nat.le_refl _, Nat.le_refl _, rfl, rfl⟩, B.notSynchronized, htr, fun hn => (name_of_methodNamed B.named B.method).1.trans hn⟩
/-- the ends of a method that returns -/
theorem am_End_ret {Y : MethodName} {ws : List Cond} {p : Program} {e : Env} {s s₁ : State} {mth : MethodId} {below : List Frame} {meth : Method} {cd : Code} {R : Room} {a : Array Value} {H : Heap} {locs : List Loc} {arr : Array Slot} {st : List Value} {h2 : AH} {r : Int} {pc c s0 mc ms : Nat}
    (hx : p.tables.exec = Jvm.exec) (hb : cd.code = am_cd m) (hr : meth.sig.returnType = am_re m) (hlk : meth.locks = false) (hK : K 0 r h2) (hr2 : am_rok G m pc r st) (hH : am_HM G h2 H) (hS : va_S (fun q => eS G ≤ q) s.heap H locs) (hc : c ≤ mc) (hs : s0 ≤ ms) :
    W p l e R s mth a below meth cd H locs c s0 (MQ below (am_Qc G (am_rtt m) K) a s mc ms (fun q => eS G ≤ q)) (F0 mth pc arr st) := by
  refine W.widen hc hs ?_
  rcases hr2 with ⟨hd, x, ty, rfl, rfl, e1, e2, e3⟩ | ⟨hd, x, rfl, rfl, e1, e3⟩ | ⟨hd, x, rfl, rfl, e1, e3⟩ | ⟨hd, V, ty, rfl, e0, e1, e2, e3⟩ | ⟨hd, rfl, e1, e3⟩
  · exact W.zret hx hb (hr.trans e1) e2 (fun t ht hW => ⟨_, _, h2, rfl, Or.inr ⟨by rw [e3]; decide, _, rfl, by rw [e3]; exact ⟨x, rfl, rfl⟩⟩, hK, by rw [ht]; exact hH, hS.F ht⟩) hS.2.2 hd hlk
  · exact W.lret hx hb (hr.trans e1) (fun t ht hW => ⟨_, _, h2, rfl, Or.inr ⟨by rw [e3]; decide, _, rfl, by rw [e3]; exact ⟨x, rfl, rfl⟩⟩, hK, by rw [ht]; exact hH, hS.F ht⟩) hS.2.2 hd hlk
  · exact W.dret hx hb (hr.trans e1) (fun t ht hW => ⟨_, _, h2, rfl, Or.inr ⟨by rw [e3]; decide, _, rfl, by rw [e3]; exact ⟨x, rfl, rfl⟩⟩, hK, by rw [ht]; exact hH, hS.F ht⟩) hS.2.2 hd hlk
  · have hv : V = .null ∨ ∃ a, V = .ref a := am_RV_ref e0 (Or.inl rfl)
    exact W.aret hx hb (hr.trans e1) e2 hv (fun t ht hW => ⟨_, _, h2, rfl, Or.inr ⟨by rw [e3]; decide, _, rfl, by rw [e3]; exact e0⟩, hK, by rw [ht]; exact hH, hS.F ht⟩) hS.2.2 hd hlk
  · exact W.vret hx hb (hr.trans e1) (fun t ht hW => ⟨_, r, h2, rfl, Or.inl ⟨e3, rfl⟩, hK, by rw [ht]; exact hH, hS.F ht⟩) hS.2.2 hd hlk
/-- a method that only returns -/
theorem am_met (hsim : am_Sim G l d m (0, am_ent (am_ml m) as, [], h, 0, 0) K) (hK : ∀ k v h', ¬ K (k + 1) v h') (hm : am_mok m) (hcat : am_cat as ≤ am_ml m) (htr : l.stackTraces = false) (hh : am_hh m = []) :
    Met l (am_mn m) (Cond.code (am_mn m) (am_cd m) (am_ml m) (am_re m) :: am_W) (am_rm d m) (am_Pc G as h) (am_Qc G (am_rtt m) K) (am_cap m).1 (am_cap m).2 (fun q => eS G ≤ q) := by
  refine am_ofW (cc := am_cd m) (maxL := am_ml m) (ret := am_re m) hm.1 rfl ?_
  intro p e s mth args below meth cd s₁ B hml hv
  obtain ⟨vs, rfl, hRS, hHM, hWK⟩ := hv
  have hts := atoms_spec (ws := Cond.code (am_mn m) (am_cd m) (am_ml m) (am_re m) :: am_W) B.pre
  have htab : cd.exceptionTable.toList = tableOf (am_hh m) := by
    obtain ⟨meth', c', h1, h2, -, -, -, -, h6, -⟩ := Cond.code_spec B.named (hts _ List.mem_cons_self)
    cases Option.some.inj (h1.symm.trans B.method)
    cases Option.some.inj (h2.symm.trans (Stand.of_body B).code)
    rw [hh, show cd.exceptionTable = #[] by simpa using h6]
    rfl
  rw [lg_entry_eq]
  refine hsim p e _ s mth vs.toArray below meth cd _ (am_Cx_of B rfl hml (fun w hw => List.mem_cons_of_mem _ hw) htr hWK) htab ⟨?_, ?_⟩ s.heap [] _ [] hHM va_S.rf (am_entry hRS hcat) trivial (Nat.zero_le _) (Nat.zero_le _)
  · intro H locs arr st h2 r pc c s0 hK0 hr2 hH hS hc hs
    exact am_End_ret (Y := am_mn m) (ws := []) (s₁ := s) B.exec B.bytes B.returns B.notSynchronized hK0 hr2 hH hS hc hs
  · intro H locs arr st ast h2 pc k c s0 hK0 ht
    obtain ⟨ik, is, ic, tx, hk1, -⟩ := ht
    exact absurd (hK0 _ (Int.le_refl _)) (by obtain ⟨k, rfl⟩ : ∃ k', k = k' + 1 := ⟨k - 1, by omega⟩; exact hK _ _ _)
/-- a method that throws or returns -/
theorem am_vmet (hsim : am_Sim G l d m (0, am_ent (am_ml m) as, [], h, 0, 0) K) (hm : am_mok m) (hcat : am_cat as ≤ am_ml m) (htr : l.stackTraces = false) (hh : am_hh m = []) :
    vx_Met l (am_mn m) (Cond.code (am_mn m) (am_cd m) (am_ml m) (am_re m) :: (am_W ++ am_W)) (am_rm d m) (am_Pc G as h) (am_Qc G (am_rtt m) K) (am_XC G K) (am_cap m).1 (am_cap m).2 (fun q => eS G ≤ q) := by
  refine am_ofV (cc := am_cd m) (maxL := am_ml m) (ret := am_re m) hm.1 rfl ?_
  intro p e s mth args below meth cd s₁ B hml hnx hv
  obtain ⟨vs, rfl, hRS, hHM, hWK⟩ := hv
  have htab : cd.exceptionTable.toList = tableOf (am_hh m) := by
    rw [hh]
    cases hc : cd.exceptionTable.toList with
    | nil => rfl
    | cons a b => exact (hnx a (by rw [hc]; exact List.mem_cons_self)).elim
  rw [lg_entry_eq]
  have hCx := am_Cx_of (m := m) B rfl hml (fun w hw => List.mem_cons_of_mem _ (List.mem_append_left _ hw)) htr hWK
  refine hsim p e _ s mth vs.toArray below meth cd _ hCx htab ⟨?_, ?_⟩ s.heap [] _ [] hHM va_S.rf (am_entry hRS hcat) trivial (Nat.zero_le _) (Nat.zero_le _)
  · intro H locs arr st h2 r pc c s0 hK0 hr2 hH hS hc hs
    exact vx_ret (am_End_ret (Y := am_mn m) (ws := []) (s₁ := s) B.exec B.bytes B.returns B.notSynchronized hK0 hr2 hH hS hc hs)
  · intro H locs arr st ast h2 pc k c s0 hK0 ht harr hst hc8 hH hS hc hs
    obtain ⟨ik, is, ic, tx, hk1, hk3, d0, d3, d4, d6, d9, w1, w2, w3, w4, -⟩ := ht
    obtain ⟨hx, hb, hml2, hown, hts, hW, hR, hlk, htr2, hin⟩ := hCx
    obtain ⟨sa, hsa⟩ := hW.1.2.2.2.1 _ w3
    have hcat2 := am_RS_cat hst
    refine vx_throwS (own := (am_mn m).cls) (cls := am_en k) (text := tx) (names := ["java/lang/RuntimeException", "java/lang/Exception"]) (ik := ik) (is := is) (ic := ic) (sa := sa) (A := fun q => eS G ≤ q) hx hb htr hown ?_ ?_ (hts _ w1) (hts _ w2) hsa ?_ ?_ hW.2.2.1.2.2.2.2.1 hW.2.2.1.2.2.2.2.2 hS (harr.trans hml.symm) d0 d3 d4 d6 d9 (fun x hx => (hnx x hx).elim) ?_ ?_ hc hs hlk ?_ hS.2.2 hc hs
    · match k, hk1, hk3 with
      | 1, _, _ => decide
      | 2, _, _ => decide
      | 3, _, _ => decide
    · decide
    · intro w hw
      rcases (w4 w hw).1 with h1 | ⟨h1, h2⟩
      · exact hts _ h1
      · exact va_Nw.use (am_isN_ot h2) (hW.1.2.1 _ h1 h2)
    · intro w hw
      rcases List.mem_cons.mp hw with rfl | hw
      · rfl
      · rcases List.mem_cons.mp hw with rfl | hw
        · rfl
        · exact (w4 w hw).2
    · have := hR.1
      show 2 + 3 < _
      omega
    · have := hR.2.1
      show _ + (13 * (2 + 1) + 43) ≤ _
      omega
    · intro t hA hz hq
      refine ⟨k, am_sn h2 (am_n h2 + ((t.heap.size : Int) - (H.size : Int))), hk1, hk3, rfl, hK0 _ (by omega), ?_, ⟨?_, fun q hq1 hq2 => ?_⟩⟩
      · have h1 := hH.1
        refine ⟨?_, hH.2.1, fun a ha => ?_⟩
        · unfold am_ph at h1 ⊢
          have e9 : am_n (am_sn h2 (am_n h2 + ((t.heap.size : Int) - (H.size : Int)))) = am_n h2 + ((t.heap.size : Int) - (H.size : Int)) := rfl
          rw [e9]
          omega
        · obtain ⟨g1, g2⟩ := hH.2.2 a ha
          exact ⟨am_ok_keep g1 (by show am_n h2 ≤ am_n h2 + ((t.heap.size : Int) - (H.size : Int)); omega) hz rfl, am_CO_kept g2 (hq _ (hH.o ha).2) rfl rfl (fun _ => rfl)⟩
      · exact Nat.le_trans hS.1 hz
      · rw [hq q (Nat.lt_of_lt_of_le hq1 hS.1)]
        exact hS.2.1 q hq1 hq2
end MET
