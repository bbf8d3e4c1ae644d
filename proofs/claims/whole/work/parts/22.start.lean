/-! THE CLAIM OUT OF ONE WALK OF THE LAW'S BODY. Your part is whole_start (and what it stands on); all else here is the same for every law, but numbers. -/
def R_law : String := "BudgetJuryLaw"
def lw_P (b : Addr) (xs : List Int32) (args : Array Value) (s : State) : Prop := args = #[.ref b] ∧ s.IntsAt b xs ∧ xs.length ≤ 3072 ∧ (Jvm.Cond.and given_1 narrow_1).before args s = true
/-- what a walk over the start with the record d0 says of its end, said of the start itself -/
theorem lw_closed {s t : State} {o : Outcome} {d0 : Drawn} {L : List Loc} {k n : Nat} (hd0 : s.drawn.sameBut d0 lw_cs) (hv : ∃ v, o = .returned v) (hW : (s.setDrawn d0).WarmedH t.vm) (hs : (s.setDrawn d0).sameButNew ({ t with vm := s.vm } : State) L k n) : State.butDraws s t lw_cs (fun t1 => Framed s o t1 L k n) := by
  have h2 : t.drawn = d0 := congrArg State.drawn hs.1
  refine ⟨⟨hv, hW, State.sameButNew.setDrawn hs s.drawn⟩, ?_, by decide⟩
  rw [h2]
  exact hd0
def lw_Q (_ : Array Value) (s : State) (o : Outcome) (t : State) : Prop := o = .returned (some (.int 1)) ∧ State.butDraws s t lw_cs (fun t1 => Framed s o t1 [] 601024 7293034)
def lw_Z (below : List Frame) (a : Array Value) (s : State) : State → Prop := fun t => ∃ o, t.status = .running ∧ Ended t below o ∧ lw_Q a s o t
/-- the law's own end, with 1 on the stack, nothing written that was there before, its room as the claim has it; d0: the record of draws at this point (at the entry s.drawn: begin with 'refine W.base ?_' and 'have hd0 := Drawn.sameBut.refl s.drawn lw_cs') -/
theorem lw_ret {p : Program} {l : Launch} {e : Env} {s : State} {m : MethodId} {below : List Frame} {meth : Method} {c : Code} {b : Nat} {d0 : Drawn} (hd0 : s.drawn.sameBut d0 lw_cs) (hx : p.tables.exec = Jvm.exec) (hb : c.code = code) (hr : meth.sig.returnType = ret) (hlocks : meth.locks = false) {pc : Nat} {H : Heap} {ls : Array Slot} (hdg : decode code pc = .ok (.ireturn, 1)) : W p l e room_1 (s.setDrawn d0) m #[Value.ref b] below meth c H [] 601024 7293034 (lw_Z below #[Value.ref b] s) (F0 m pc ls [.int 1]) := by
  intro T hT X
  obtain ⟨fs, hret, hrun, hended, hW, hframe⟩ := X.leave (v := some (.int 1)) (hlocks := hlocks) (fun h => by rw [hr] at h; cases h)
  have hmeth' : T.vm.method? m = some meth := X.method'
  refine ⟨T.setFrames fs, ?_, .returned (some (.int 1)), hrun, hended, rfl, lw_closed hd0 ⟨_, rfl⟩ hW hframe⟩
  jvm_step X.here [X.here.top, hx, hb, hdg, hmeth', hr, ret, narrow_b1]
  (try refine ⟨rfl, ?_⟩); (try refine ⟨rfl, ?_⟩)
  first | (intro acts; rw [hret _ acts rfl rfl rfl]) | rw [hret _ _ rfl rfl rfl]
  exact Steps.refl _
/-- what holds at the law's entry: the machine, the code, the tables' words (any of lw_tbl by 'hts w (by decide +kernel)'), the script of L ints xs at the cell b, what the Statement gives of the start (any of its parts by flat_of_before) -/
def lw_At (p : Program) (s : State) (m : MethodId) (meth : Method) (c : Code) (b L : Nat) (xs : Nat → Int32) : Prop :=
  p.tables.exec = Jvm.exec ∧ c.code = code ∧ meth.sig.returnType = ret ∧ c.maxLocals = 9 ∧ s.vm.findClass R_law = some m.cls ∧ (∀ w ∈ lw_tbl, w.before #[Value.ref b] s = true) ∧ va_X b L xs s s.heap ∧ b < s.heap.size ∧ meth.locks = false ∧ (Jvm.Cond.and given_1 narrow_1).before #[Value.ref b] s = true ∧ c.exceptionTable.toList = []

/-- the heap of the abstract machine as the law begins -/
def am_h0 (L : Nat) (xs : Nat → Int32) : AH := (fun _ => 0, fun _ => 0, fun _ _ => 0, 0, (L : Int), fun j => (xs j.toNat).toInt)
def am_K0 : AK := fun x v _ => x = 0 ∧ v = 1
/-- out of the abstract machine's run of the law, the real one's -/
theorem am_start {p : Program} {e : Env} {s : State} {m : MethodId} {below : List Frame} {meth : Method} {c : Code} (l : Launch) (hflags : l.flags = flags0) {b L : Nat} {xs : Nat → Int32} (hL : L ≤ 3072) (C0 : lw_At p s m meth c b L xs)
    (hwp : WP 2000 245 (0, am_ent 9 [(4, 0)], [], am_h0 L xs, 0, 0) am_K0) : W p l e room_1 s m #[Value.ref b] below meth c s.heap [] 0 0 (lw_Z below #[Value.ref b] s) (entryFrame m ([Value.ref b] : List Value).toArray 9) := by
  obtain ⟨hx, hb, hr, hml, hown, hts, hX, hbl, hlocks, hgv, htab⟩ := id C0
  obtain ⟨G, g1, g2, g3, g4, hWK⟩ := am_world hts hgv hX hbl hL
  have htr : l.stackTraces = false := by
    unfold Launch.stackTraces
    rw [hflags]
    decide +kernel
  have hC : am_Cx G l 2000 245 p room_1 s m #[Value.ref b] meth c := ⟨hx, hb, hml, hown, fun w hw => hts w (List.mem_filter.mp hw).1, hWK, ⟨by decide, by decide, rfl, rfl⟩, hlocks, htr, fun hz => absurd hz (by decide)⟩
  rw [lg_entry_eq]
  have hd0 := Drawn.sameBut.refl s.drawn lw_cs
  refine am_sim (G := G) hwp p e room_1 s m #[Value.ref b] below meth c _ hC ?_ ⟨?_, ?_⟩ s.heap [] _ [] ?_ (by rw [g1]; exact va_S.rf) (am_entry (vs := [.ref b]) ⟨by show Value.ref b = .ref (eb G); rw [g2], trivial⟩ (by decide)) trivial (Nat.zero_le _) (Nat.zero_le _)
  · exact htab
  · intro H locs arr st h r pc c0 s0 hk0 hr2 hH hS hc hs
    obtain ⟨-, rfl⟩ := hk0
    rcases hr2 with ⟨hd, x, ty, rfl, hx1, e1, e2, e3⟩ | ⟨-, -, -, -, -, e3⟩ | ⟨-, -, -, -, -, e3⟩ | ⟨-, -, -, -, -, -, -, e3⟩ | ⟨-, -, -, e3⟩
    · have : x = 1 := Int32.toInt_inj.mp hx1.symm
      subst this
      refine va_forget (fun q hq => by have := hS.2.2 q hq; rw [g1] at this; exact this) ?_
      refine W.widen (k := 601024) (n := 7293034) hc hs ?_
      refine W.base ?_
      exact lw_ret hd0 hx hb hr hlocks hd
    · exact absurd e3 (by decide)
    · exact absurd e3 (by decide)
    · exact absurd e3 (by decide)
    · exact absurd e3 (by decide)
  · intro H locs arr st ast h pc k c0 s0 hk0 ht
    obtain ⟨ik, is, ic, tx, hk1, -⟩ := ht
    have := (hk0 _ (Int.le_refl _)).1
    omega
  · refine ⟨⟨Int.le_refl _, by rw [g1]; rfl⟩, ⟨by rw [g3]; rfl, fun j hj => by rw [g4]; rfl⟩, fun a ha => absurd rfl ha⟩
