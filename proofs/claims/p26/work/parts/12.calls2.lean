/-! ===== the calls ===== -/
theorem am_pop_spec : ∀ {n : Nat} {acc st as r : List AV}, am_pop n acc st = some (as, r) → ∃ l : List AV, as = l.reverse ++ acc ∧ st = l ++ r ∧ l.length = n
  | 0, acc, st, as, r, h => by
    cases h
    exact ⟨[], rfl, rfl, rfl⟩
  | n + 1, acc, [], as, r, h => by cases h
  | n + 1, acc, v :: st, as, r, h => by
    obtain ⟨l, e1, e2, e3⟩ := am_pop_spec (n := n) (acc := v :: acc) h
    exact ⟨v :: l, by rw [e1]; simp, by rw [e2]; rfl, by simp [e3]⟩
theorem am_RS_app {G : am_En} : ∀ {l r : List AV} {sv : List Value}, am_RS G (l ++ r) sv → ∃ lv rv, sv = lv ++ rv ∧ am_RS G l lv ∧ am_RS G r rv
  | [], r, sv, h => ⟨[], sv, rfl, trivial, h⟩
  | v :: l, r, [], h => h.elim
  | v :: l, r, V :: sv, h => by
    obtain ⟨lv, rv, e1, e2, e3⟩ := am_RS_app (l := l) h.2
    exact ⟨V :: lv, rv, by rw [e1]; rfl, ⟨h.1, e2⟩, e3⟩
theorem am_RS_cat2 {G : am_En} : ∀ {l r : List AV} {lv rv : List Value}, am_RS G l lv → am_RS G r rv → am_RS G (l ++ r) (lv ++ rv)
  | [], r, [], rv, _, h => h
  | [], r, _ :: _, rv, h, _ => h.elim
  | _ :: _, r, [], rv, h, _ => h.elim
  | v :: l, r, V :: lv, rv, h, h2 => ⟨h.1, am_RS_cat2 h.2 h2⟩
theorem am_RS_rev {G : am_En} : ∀ {l : List AV} {lv : List Value}, am_RS G l lv → am_RS G l.reverse lv.reverse
  | [], [], _ => trivial
  | [], _ :: _, h => h.elim
  | _ :: _, [], h => h.elim
  | v :: l, V :: lv, h => by
    rw [List.reverse_cons, List.reverse_cons]
    exact am_RS_cat2 (am_RS_rev h.2) ⟨h.1, trivial⟩
theorem am_RS_len {G : am_En} : ∀ {l : List AV} {lv : List Value}, am_RS G l lv → l.length = lv.length
  | [], [], _ => rfl
  | [], _ :: _, h => h.elim
  | _ :: _, [], h => h.elim
  | v :: l, V :: lv, h => by simp [am_RS_len h.2]
def am_rcv (r3 : Nat) (h : AH) (as : List AV) : Prop := r3 = 0 ∨ (r3 = 60 ∧ ((∃ j t, as = (5, j) :: t) ∨ ∃ a t, as = (2, a) :: t ∧ (am_t h a = 9 ∨ am_t h a = 18))) ∨ (r3 = 62 ∧ ∃ a t, as = (2, a) :: t ∧ ¬ a = -1) ∨ (r3 = 61 ∧ ∃ a t, as = (2, a) :: t ∧ 0 ≤ a) ∨ (r3 ≠ 0 ∧ r3 ≠ 60 ∧ r3 ≠ 61 ∧ r3 ≠ 62 ∧ ∃ a t, as = (2, a) :: t ∧ am_t h a = r3)
section SIM
variable {G : am_En} {l : Launch} {d m : Nat} {p : Program} {e : Env} {R : Room} {s : State} {mth : MethodId} {args : Array Value} {below : List Frame} {meth : Method} {cd : Code} {Q : State → Prop} {K : AK} {X : AX} {Z : AC → Prop} {hs : List (Nat × Nat × Nat × Nat)}
variable {pc : Nat} {ls st : List AV} {h : AH} {c s0 : Nat}
theorem am_mk_inv {o : Option Prop} {m2 rt : Nat} {as r : List AV} {ccap cap : Nat × Nat} (w : am_stp X Z d hs K (am_mk o m2 as pc rt ccap cap ls r h c s0)) :
    (∀ q, o = some q → q) ∧ (ccap = (0, 0) ∨ (c + ccap.1 ≤ cap.1 ∧ s0 + ccap.2 ≤ cap.2)) ∧ am_dn X d m2 (0, am_ent (am_ml m2) as, [], h, 0, 0) (am_ret hs Z pc rt (pc + 3, ls, r, h, c + ccap.1, s0 + ccap.2)) := by
  obtain ⟨c1, c2⟩ := ccap
  unfold am_mk at w
  split at w
  · rename_i hz
    dsimp only at hz
    have h1 : c1 = 0 := by omega
    have h2 : c2 = 0 := by omega
    subst h1
    subst h2
    cases o with
    | none => exact ⟨fun q hq => (by cases hq), Or.inl rfl, w⟩
    | some q => exact ⟨fun q hq => (by cases hq; exact w.1), Or.inl rfl, w.2⟩
  · cases o with
    | none => exact ⟨fun q hq => (by cases hq), Or.inr w.1, w.2⟩
    | some q => exact ⟨fun q hq => (by cases hq; exact w.1.1), Or.inr w.1.2, w.2⟩
theorem am_inv_inv {r1 m2 r3 cml na rt : Nat} {ccap cap : Nat × Nat} (w : am_stp X Z d hs K (am_inv r1 m2 r3 ccap cap cml na rt pc ls st h c s0)) :
    ∃ as r, am_pop na [] st = some (as, r) ∧ am_cat r ≤ 8 ∧ am_cat as ≤ cml ∧ am_rcv r3 h as ∧ (ccap = (0, 0) ∨ (c + ccap.1 ≤ cap.1 ∧ s0 + ccap.2 ≤ cap.2)) ∧ am_dn X d m2 (0, am_ent (am_ml m2) as, [], h, 0, 0) (am_ret hs Z pc rt (pc + 3, ls, r, h, c + ccap.1, s0 + ccap.2)) := by
  unfold am_inv at w
  split at w
  · exact w.elim
  · split at w
    · exact w.elim
    · rename_i as r hp
      split at w
      · exact w.elim
      · rename_i hb
        rw [Bool.and_eq_true] at hb
        refine ⟨as, r, hp, Nat.le_of_ble_eq_true hb.1, Nat.le_of_ble_eq_true hb.2, ?_⟩
        split at w
        · obtain ⟨-, w2, w3⟩ := am_mk_inv w
          exact ⟨Or.inl rfl, w2, w3⟩
        · split at w
          · obtain ⟨-, w2, w3⟩ := am_mk_inv w
            exact ⟨Or.inr (Or.inl ⟨rfl, Or.inl ⟨_, _, rfl⟩⟩), w2, w3⟩
          · obtain ⟨w1, w2, w3⟩ := am_mk_inv w
            exact ⟨Or.inr (Or.inl ⟨rfl, Or.inr ⟨_, _, rfl, w1 _ rfl⟩⟩), w2, w3⟩
          · exact w.elim
        · split at w
          · obtain ⟨w1, w2, w3⟩ := am_mk_inv w
            exact ⟨Or.inr (Or.inr (Or.inl ⟨rfl, _, _, rfl, w1 _ rfl⟩)), w2, w3⟩
          · exact w.elim
        · split at w
          · obtain ⟨w1, w2, w3⟩ := am_mk_inv w
            exact ⟨Or.inr (Or.inr (Or.inr (Or.inl ⟨rfl, _, _, rfl, w1 _ rfl⟩))), w2, w3⟩
          · exact w.elim
        · rename_i n0 n1 n2 n3
          split at w
          · obtain ⟨w1, w2, w3⟩ := am_mk_inv w
            exact ⟨Or.inr (Or.inr (Or.inr (Or.inr ⟨n0, by first | exact n1 | exact n2 | exact n3, by first | exact n1 | exact n2 | exact n3, by first | exact n1 | exact n2 | exact n3, _, _, rfl, w1 _ rfl⟩))), w2, w3⟩
          · exact w.elim
theorem am_dn_inv {m2 : Nat} {cf : AC} (w : am_dn X d m2 cf K) : ∃ d', d = d' + 1 ∧ X d' m2 cf K := by
  cases d with
  | zero => exact w.elim
  | succ d => exact ⟨d, rfl, w⟩
theorem am_ret_zero {rt : Nat} {cf : AC} {v : Int} {h' : AH} (w : am_ret hs Z pc rt cf 0 v h') : Z (cf.1, cf.2.1, am_push rt v cf.2.2.1, h', cf.2.2.2.2) := by
  cases hs with
  | nil => exact w
  | cons a b => exact w
theorem am_push_RS {rt : Nat} {r : List AV} {v : Int} {ov : Option Value} {sv : List Value} (h1 : am_rvO G rt v ov) (h2 : am_RS G r sv) : am_RS G (am_push rt v r) (ov.toList ++ sv) := by
  rcases h1 with ⟨rfl, rfl⟩ | ⟨hne, V, rfl, hV⟩
  · exact h2
  · have : am_push rt v r = (rt, v) :: r := by
      unfold am_push
      split
      · exact absurd rfl hne
      · rfl
    rw [this]
    exact ⟨hV, h2⟩
/-- behind a call that returned -/
theorem am_back {H : Heap} {locs L : List Loc} {arr : Array Slot} {sv : List Value} {r : List AV} {rt mc ms : Nat} {T' st₀ t : State} {v : Int} {ov : Option Value} {h' : AH}
    (w : am_Gl G m p l e R s mth args below meth cd Q (pc + 3, ls, am_push rt v r, h', c + mc, s0 + ms)) (hL : am_RL G (am_ml m) ls arr) (hr : am_RS G r sv) (hrv : am_rvO G rt v ov) (hH : am_HM G h' t.heap) (hF : va_F (fun q => eS G ≤ q) st₀ t) (hS : va_S (fun q => eS G ≤ q) s.heap H locs)
    (h0 : st₀.heap = H) (hLb : ∀ q ∈ L, eS G ≤ q.base) (e1 : T'.heap = t.heap) (hc : c + mc ≤ R.cells) (hs : s0 + ms ≤ R.slots) : W p l e R s mth args below meth cd T'.heap (locs ++ L) (c + mc) (s0 + ms) Q (F0 mth (pc + 3) arr (ov.toList ++ sv)) := by
  obtain ⟨hz, hk⟩ := hF
  rw [h0] at hz hk
  refine w T'.heap (locs ++ L) arr _ (by rw [e1]; exact hH) ⟨Nat.le_trans hS.1 (by rw [e1]; exact hz), fun q h1 h2 => ?_, fun q hq => ?_⟩ hL (am_push_RS hrv hr) hc hs
  · rw [e1, hk q (Nat.lt_of_lt_of_le h1 hS.1) h2]
    exact hS.2.1 q h1 h2
  · rcases List.mem_append.mp hq with h | h
    · exact hS.2.2 q h
    · exact hLb q h
theorem am_after {H : Heap} {locs : List Loc} {arr : Array Slot} {st0 sv : List Value} {r : List AV} {rt mc ms : Nat} {K2 : AK} {a : Array Value} (hrun : va_Run p l e R s mth args below meth cd H locs c s0 mc ms (F0 mth pc arr st0) sv (am_Qc G rt K2 a) (fun q => eS G ≤ q))
    (hK2 : ∀ v h', K2 0 v h' → am_Gl G m p l e R s mth args below meth cd Q (pc + 3, ls, am_push rt v r, h', c + mc, s0 + ms)) (hL : am_RL G (am_ml m) ls arr) (hr : am_RS G r sv) (hS : va_S (fun q => eS G ≤ q) s.heap H locs) (hc : c + mc ≤ R.cells) (hs : s0 + ms ≤ R.slots) : W p l e R s mth args below meth cd H locs c s0 Q (F0 mth pc arr st0) := by
  intro T hT X
  obtain ⟨ov, st₀, t, T', L, h0, X', hLb, e1, e2, ⟨v', r', h', hv, hrv, hK, hHM, hF⟩, stp⟩ := hrun T hT X
  cases hv
  obtain ⟨t2, a1, b1⟩ := am_back (hK2 _ _ hK) hL hr hrv hHM hF hS h0 hLb e1 hc hs T' rfl X'
  exact ⟨t2, stp t2 a1, b1⟩
/-- what is so of a place that calls m2: the words -/
def am_GI (m2 : Nat) : List Cond := Cond.code (am_mn m2) (am_cd m2) (am_ml m2) (am_re m2) :: am_W
theorem am_good {w : Cond} (h : w ∈ am_W) : w ∈ am_W ∧ ((w.onTables && w.keeps) = true ∨ ∃ ty, w = .arrayClass ty) := ⟨h, am_W_good h⟩
theorem am_GI_in {m2 : Nat} (hw : Cond.code (am_mn m2) (am_cd m2) (am_ml m2) (am_re m2) ∈ am_W) : GoodIn am_W (am_GI m2) := by
  intro w h
  rcases List.mem_cons.mp h with rfl | h
  · exact am_good hw
  · exact am_good h
/-- no handler stands at this place -/
def am_unc (hs : List (Nat × Nat × Nat × Nat)) (pc : Nat) : Bool := hs.all fun e => !(Nat.ble e.1 pc && Nat.blt pc e.2.1)
theorem am_unc_fnd {x pc : Nat} {P : Nat → Prop} : ∀ {hs : List (Nat × Nat × Nat × Nat)}, am_unc hs pc = true → ¬ am_fnd hs x pc P
  | [], _, w => w
  | (a, b, q, k) :: r, h, w => by
    unfold am_unc at h
    rw [List.all_cons, Bool.and_eq_true] at h
    unfold am_fnd at w
    split at w
    · rename_i hh
      rw [Bool.and_eq_true, Bool.and_eq_true] at hh
      have h1 := h.1
      simp only [hh.1, hh.2.1] at h1
      cases h1
    · exact am_unc_fnd (hs := r) h.2 w
theorem am_unc_no {k rt : Nat} {cf : AC} {v : Int} {h' : AH} (h : am_unc hs pc = true) : ¬ am_ret hs Z pc rt cf (k + 1) v h' := by
  intro z
  cases hs with
  | nil => exact z
  | cons a b =>
    have z2 : am_fnd (a :: b) (k + 1) pc (fun q => Z (q, cf.2.1, [(10, 0)], h', cf.2.2.2.2)) := z
    exact am_unc_fnd h z2
/-- the receiver's cell -/
theorem am_recv {H : Heap} {locs : List Loc} {r3 : Nat} {as : List AV} {vs : List Value} {C : String} (hW : am_WK G s s.heap) (hS : va_S (fun q => eS G ≤ q) s.heap H locs) (hH : am_HM G h H) (hrc : am_rcv r3 h as) (hvs : am_RS G as vs) (h0 : r3 ≠ 0) (hC : (r3 = 60 ∧ C = "java/lang/String") ∨ r3 = 61 ∨ r3 = 62 ∨ (r3 ≠ 60 ∧ r3 ≠ 61 ∧ r3 ≠ 62 ∧ 1 ≤ r3 ∧ r3 ≤ 9 ∧ ∃ q : vw_C, vwCl[r3 - 1]? = some q ∧ q.1 = C)) :
    ∃ (b : Nat) (As : List Value), vs = .ref b :: As ∧ (r3 ≠ 61 → r3 ≠ 62 → ∃ cell : Cell, H[b]? = some cell ∧ cell.vm.isStatics = false ∧ s.vm.findClass C = some cell.cls) := by
  have own : ∀ (a : Int) (r : Nat) (q : vw_C), am_t h a = r → 1 ≤ r → r ≤ 9 → vwCl[r - 1]? = some q → ∃ cell : Cell, H[ea G a]? = some cell ∧ cell.vm.isStatics = false ∧ s.vm.findClass q.1 = some cell.cls := by
    intro a r q ha k1 k2 k3
    obtain ⟨-, g2⟩ := hH.2.2 a (by omega)
    obtain ⟨q', F, b1, ⟨cell, b2, b3, b4, -⟩, -⟩ := (am_CO_obj ha k1 k2).mp g2
    cases b1.symm.trans k3
    exact ⟨cell, b2, by rw [b4]; rfl, by rw [b3]; exact (hW.1.1.1 (r - 1) _ k3).2.1⟩
  rcases hrc with hrc | ⟨e1, hrc⟩ | ⟨e1, a, t, rfl, ha⟩ | ⟨e1, a, t, rfl, ha⟩ | ⟨n0, n1, n2, n3, a, t, rfl, ha⟩
  · exact absurd hrc h0
  · have hCS : C = "java/lang/String" := by
      rcases hC with ⟨-, hC⟩ | hC | hC | hC
      · exact hC
      · omega
      · omega
      · omega
    subst hCS
    rcases hrc with ⟨j, t, rfl⟩ | ⟨a, t, rfl, ha⟩
    · obtain ⟨V, As, rfl, ⟨g1, g2, rfl⟩, -⟩ := am_RS_inv hvs
      refine ⟨_, As, rfl, fun _ _ => ?_⟩
      obtain ⟨s1, -⟩ := hW.2.1 j.toNat (by simp only at g2; omega)
      obtain ⟨cell, q1, q2, q3, -⟩ := s1.kept hS.2.1
      exact ⟨cell, q1, q2, q3⟩
    · obtain ⟨V, As, rfl, hV, -⟩ := am_RS_inv hvs
      cases am_RVr hV (hH.o (a := a) (by omega)).1
      refine ⟨_, As, rfl, fun _ _ => ?_⟩
      rcases ha with ha | ha
      · exact own a 9 _ ha (by omega) (by omega) rfl
      · obtain ⟨-, g2⟩ := hH.2.2 a (by omega)
        obtain ⟨j, j1, j2, -⟩ := (am_CO_s ha).mp g2
        have e9 : ea G a = ek G j := by rw [j2]; exact am_ea_k G j
        rw [e9]
        obtain ⟨s1, -⟩ := hW.2.1 j j1
        obtain ⟨cell, q1, q2, q3, -⟩ := s1.kept hS.2.1
        exact ⟨cell, q1, q2, q3⟩
  · obtain ⟨V, As, rfl, hV, -⟩ := am_RS_inv hvs
    cases am_RVr hV ha
    exact ⟨_, As, rfl, fun z z2 => by omega⟩
  · obtain ⟨V, As, rfl, hV, -⟩ := am_RS_inv hvs
    cases am_RVr hV (by omega)
    exact ⟨_, As, rfl, fun z => by omega⟩
  · obtain ⟨V, As, rfl, hV, -⟩ := am_RS_inv hvs
    cases am_RVr hV (hH.o (a := a) (by omega)).1
    refine ⟨_, As, rfl, fun _ _ => ?_⟩
    rcases hC with ⟨hC, -⟩ | hC | hC | ⟨-, -, -, k1, k2, q, k3, rfl⟩
    · omega
    · omega
    · omega
    · exact own a r3 q ha k1 k2 k3
end SIM
