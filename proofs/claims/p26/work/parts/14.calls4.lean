/-! ===== calls of what may throw, and of what catches; copying rows ===== -/
def am_ct : Nat → Nat
  | 1 => 174
  | 2 => 1000
  | _ => 1001
/-- the table of a method that catches, as the abstract machine has it -/
def am_hok (m : Nat) : Prop := am_hh m = (am_hd m).map (fun e => (e.1, e.2.1, e.2.2.1, am_ct e.2.2.2)) ∧ ∀ e ∈ am_hd m, (1 ≤ e.2.2.2 ∧ e.2.2.2 ≤ 1) ∧ Cond.classLink (am_mn m).cls (am_ct e.2.2.2) (am_en e.2.2.2) ∈ am_W ∧ Cond.castable (am_en e.2.2.2) (am_en e.2.2.2) ∈ lw_tbl
theorem am_ct_pos (k : Nat) : am_ct k ≠ 0 := by
  unfold am_ct
  split <;> decide
theorem am_fnd_split {x pc : Nat} {P : Nat → Prop} : ∀ {hs : List (Nat × Nat × Nat × Nat)}, am_fnd hs x pc P → ∃ pre a b q suf, hs = pre ++ (a, b, q, x) :: suf ∧ a ≤ pc ∧ pc < b ∧ P q ∧ ∀ z ∈ pre, (z.1 ≤ pc ∧ pc < z.2.1) → z.2.2.2 ≠ x
  | [], w => w.elim
  | (a, b, q, k) :: r, w => by
    unfold am_fnd at w
    split at w
    · rename_i hh
      rw [Bool.and_eq_true, Bool.and_eq_true] at hh
      have h1 := Nat.le_of_ble_eq_true hh.1
      have h2 := Nat.le_of_ble_eq_true hh.2.1
      have h3 := Nat.eq_of_beq_eq_true hh.2.2
      subst h3
      exact ⟨[], a, b, q, r, rfl, h1, h2, w, fun z hz => by cases hz⟩
    · rename_i hh
      obtain ⟨pre, a1, b1, q1, suf, rfl, g1, g2, g3, g4⟩ := am_fnd_split w
      refine ⟨(a, b, q, k) :: pre, a1, b1, q1, suf, rfl, g1, g2, g3, fun z hz hz2 => ?_⟩
      rcases List.mem_cons.mp hz with rfl | hz
      · intro hk
        dsimp only at hz2 hk
        rw [Nat.ble_eq_true_of_le hz2.1, show Nat.blt pc b = true from Nat.ble_eq_true_of_le hz2.2, hk, Nat.beq_refl] at hh
        cases hh
      · exact g4 z hz hz2
section MET
variable {G : am_En} {l : Launch} {d m : Nat} {as : List AV} {h : AH} {K : AK}
/-- a method that catches, and only returns -/
theorem am_metW (hsim : am_Sim G l d m (0, am_ent (am_ml m) as, [], h, 0, 0) K) (hK : ∀ k v h', ¬ K (k + 1) v h') (hm : am_mok m) (hcat : am_cat as ≤ am_ml m) (htr : l.stackTraces = false) (hh : am_hh m ≠ []) :
    Met l (am_mn m) (Cond.codeWith (am_mn m) (am_cd m) (am_ml m) (am_re m) (am_hh m) :: am_W) (am_rm d m) (am_Pc G as h) (am_Qc G (am_rtt m) K) (am_cap m).1 (am_cap m).2 (fun q => eS G ≤ q) := by
  refine MetFree.of_bodySF (code := am_cd m) (maxLocals := am_ml m) (ret := am_re m) hm.1 ?_ ?_
  · intro args s mm hpre hn
    obtain ⟨m9, meth, c, hn9, h1, h2, h3, h4, -, h5, h6, -⟩ := Cond.codeWith_spec (atoms_spec (ws := Cond.codeWith (am_mn m) (am_cd m) (am_ml m) (am_re m) (am_hh m) :: am_W) hpre _ List.mem_cons_self)
    cases hn.symm.trans hn9
    exact ⟨meth, c, h1, h2, h3, h4, h5, h6⟩
  · intro p e s mth args below meth cd s₁ B hml hv _
    obtain ⟨vs, rfl, hRS, hHM, hWK⟩ := hv
    have hts := atoms_spec (ws := Cond.codeWith (am_mn m) (am_cd m) (am_ml m) (am_re m) (am_hh m) :: am_W) B.pre
    have htab : cd.exceptionTable.toList = tableOf (am_hh m) := vx_table (x := am_mn m) B (hts _ List.mem_cons_self)
    have hh0 : s₁.heap = s.heap := by rw [B.state]; rfl
    have key : W p l e (headSpec (Cond.codeWith (am_mn m) (am_cd m) (am_ml m) (am_re m) (am_hh m) :: am_W) (am_rm d m)).room s mth vs.toArray below meth cd s.heap [] 0 0 (MQ below (am_Qc G (am_rtt m) K) vs.toArray s (am_cap m).1 (am_cap m).2 (fun q => eS G ≤ q)) (entryFrame mth vs.toArray (am_ml m)) := by
      rw [lg_entry_eq]
      refine hsim p e _ s mth vs.toArray below meth cd _ (am_Cx_of B rfl hml (fun w hw => List.mem_cons_of_mem _ hw) htr hWK) htab ⟨?_, ?_⟩ s.heap [] _ [] hHM va_S.rf (am_entry hRS hcat) trivial (Nat.zero_le _) (Nat.zero_le _)
      · intro H locs arr st h2 r pc c s0 hK0 hr2 hH hS hc hs
        exact am_End_ret (Y := am_mn m) (ws := []) (s₁ := s) B.exec B.bytes B.returns B.notSynchronized hK0 hr2 hH hS hc hs
      · intro H locs arr st ast h2 pc k c s0 hK0 ht
        obtain ⟨ik, is, ic, tx, hk1, -⟩ := ht
        exact absurd (hK0 _ (Int.le_refl _)) (by obtain ⟨k, rfl⟩ : ∃ k', k = k' + 1 := ⟨k - 1, by omega⟩; exact hK _ _ _)
    obtain ⟨t, a1, o, b1, b2, b3⟩ := key s₁ hh0 (Stand.of_body B)
    exact ⟨t, o, a1, b1, b2, b3⟩
end MET
section SIM
variable {G : am_En} {l : Launch} {d m : Nat} {p : Program} {e : Env} {R : Room} {s : State} {mth : MethodId} {args : Array Value} {below : List Frame} {meth : Method} {cd : Code} {Q : State → Prop} {K : AK} {X : AX} {hs : List (Nat × Nat × Nat × Nat)}
variable {pc : Nat} {ls st : List AV} {h : AH} {c s0 : Nat}
theorem am_i_statW (C : am_Cx G l d m p R s mth args meth cd) {idx m2 r3 : Nat} (hok : am_cok m pc 15 idx m2 r3) (hd : decode (am_cd m) pc = .ok (.invokestatic idx, 3)) (w : am_stp (am_Sim G l) (am_Gl G m p l e R s mth args below meth cd Q) d (am_hd m) K (am_inv 15 m2 r3 (am_cap m2) (am_cap m) (am_ml m2) (am_na m2) (am_rtt m2) pc ls st h c s0)) : am_Gl G m p l e R s mth args below meth cd Q (pc, ls, st, h, c, s0) := by
  have w1 := am_inv_inv w
  clear w
  obtain ⟨as, r, hp, hc8, hcat, hrc, hcap, w⟩ := w1
  have w1 := am_dn_inv w
  clear w
  obtain ⟨d', rfl, w⟩ := w1
  obtain ⟨l0, e1, e2, e3⟩ := am_pop_spec hp
  rw [List.append_nil] at e1
  subst e2
  obtain ⟨hm2, ok1, ok2, ok3, ok4, ok5, ok6, ok7, ok8, ok9, ok10⟩ := hok
  have hCx := C
  obtain ⟨hx, hb, hml, hown, hts, hW, hR, hlk, htr, hin⟩ := C
  intro H locs arr sv hH hS hL hst hc hs0
  dsimp only at hH hL hst hc hs0 ⊢
  obtain ⟨lv, rv, rfl, hlv, hrv⟩ := am_RS_app hst
  have hvs : am_RS G as lv.reverse := by rw [e1]; exact am_RS_rev hlv
  have hlen := am_RS_len hlv
  have hcatr := am_RS_cat hrv
  have hbud : c + (am_cap m2).1 ≤ R.cells ∧ s0 + (am_cap m2).2 ≤ R.slots := by
    have := hR.2.2
    rcases hcap with hcap | hcap
    · rw [hcap]; exact ⟨hc, hs0⟩
    · omega
  have hRm : (am_rm d' m2).frames + 1 ≤ R.frames ∧ 8 + (am_ml m2 + 11) + (am_rm d' m2).locals ≤ R.locals := by
    have h1 := hR.1
    have h2 := hR.2.1
    have h3 := hm2.2.1
    refine ⟨?_, ?_⟩
    · show d' + 8 + 1 ≤ _
      omega
    · show 8 + (am_ml m2 + 11) + (40 * d' + 200) ≤ _
      omega
  have hW8 : 2 * (F0 mth pc arr (lv ++ rv)).monitorRoom + (rv.map fun v => v.category).sum ≤ 8 := by
    rw [hcatr]
    show 2 * 0 + am_cat r ≤ 8
    omega
  have hun := ok10 (by omega)
  have hh2 : am_hh m2 ≠ [] := ok9 rfl
  have hcode : Cond.codeWith (am_mn m2) (am_cd m2) (am_ml m2) (am_re m2) (am_hh m2) ∈ am_W := by
    have := hm2.2.2.2
    rw [if_neg hh2] at this
    exact this
  have hM := am_metW (d := d') (m := m2) (as := as) (h := h) w (fun k v h' => am_unc_no hun) hm2 hcat htr hh2
  have hfix : CallFix p mth cd (am_cd m) (am_ml m) s args am_W (am_mn m).cls := ⟨hx, hb, hml, hown, hts⟩
  obtain ⟨k1, k2, k3⟩ := ok4 (by omega)
  have hp0 : PreS s H (am_Pc G as h) lv.reverse := ⟨am_Pc_blind, fun U hU hWU => ⟨_, rfl, hvs, by rw [hU]; exact hH, by rw [hU]; exact (hW.kept hS.1 hS.2.1).warm hWU⟩⟩
  have cw := vx_cwSW (R := R) (own := (am_mn m).cls) (index := idx) (rm := am_rm d' m2) (mc := (am_cap m2).1) (ms := (am_cap m2).2) (am_na m2) hts (show GoodIn am_W (va_wsS (am_mn m).cls idx (am_mn m2) (Cond.codeWith (am_mn m2) (am_cd m2) (am_ml m2) (am_re m2) (am_hh m2) :: am_W)) from fun w h => by
      rcases List.mem_append.mp h with h | h
      · simp only [List.mem_cons, List.not_mem_nil, or_false] at h
        rcases h with rfl | rfl | rfl
        · exact am_good (ok2 (by omega))
        · exact am_good k1
        · exact am_good ok1
      · rcases List.mem_cons.mp h with rfl | h
        · exact am_good hcode
        · exact am_good h) rfl rfl rfl ⟨hm2.2.2.1.1, hm2.2.2.1.2, k3⟩ hRm
  exact am_after (rt := am_rtt m2) (vx_runSW hfix hM cw hp0 rfl (by simp; omega) hL.1 (by simp) hW8 hd hbud) (fun v h' z => am_ret_zero z) hL hrv hS hbud.1 hbud.2
theorem am_i_virtX (C : am_Cx G l d m p R s mth args meth cd) {idx m2 r3 : Nat} (hok : am_cok m pc 14 idx m2 r3) (hho : am_hok m) (htab : cd.exceptionTable.toList = tableOf (am_hh m)) (hd : decode (am_cd m) pc = .ok (.invokevirtual idx, 3)) (w : am_stp (am_Sim G l) (am_Gl G m p l e R s mth args below meth cd Q) d (am_hd m) K (am_inv 14 m2 r3 (am_cap m2) (am_cap m) (am_ml m2) (am_na m2) (am_rtt m2) pc ls st h c s0)) : am_Gl G m p l e R s mth args below meth cd Q (pc, ls, st, h, c, s0) := by
  have w1 := am_inv_inv w
  clear w
  obtain ⟨as, r, hp, hc8, hcat, hrc, hcap, w⟩ := w1
  have w1 := am_dn_inv w
  clear w
  obtain ⟨d', rfl, w⟩ := w1
  obtain ⟨l0, e1, e2, e3⟩ := am_pop_spec hp
  rw [List.append_nil] at e1
  subst e2
  obtain ⟨hm2, ok1, ok2, ok3, ok4, ok5, ok6, ok7, ok8, ok9, ok10⟩ := hok
  have hCx := C
  obtain ⟨hx, hb, hml, hown, hts, hW, hR, hlk, htr, hin⟩ := C
  intro H locs arr sv hH hS hL hst hc hs0
  dsimp only at hH hL hst hc hs0 ⊢
  obtain ⟨lv, rv, rfl, hlv, hrv⟩ := am_RS_app hst
  have hvs : am_RS G as lv.reverse := by rw [e1]; exact am_RS_rev hlv
  have hlen := am_RS_len hlv
  have hcatr := am_RS_cat hrv
  have hbud : c + (am_cap m2).1 ≤ R.cells ∧ s0 + (am_cap m2).2 ≤ R.slots := by
    have := hR.2.2
    rcases hcap with hcap | hcap
    · rw [hcap]; exact ⟨hc, hs0⟩
    · omega
  have hRm : (am_rm d' m2).frames + 1 ≤ R.frames ∧ 8 + (am_ml m2 + 11) + (am_rm d' m2).locals ≤ R.locals := by
    have h1 := hR.1
    have h2 := hR.2.1
    have h3 := hm2.2.1
    refine ⟨?_, ?_⟩
    · show d' + 8 + 1 ≤ _
      omega
    · show 8 + (am_ml m2 + 11) + (40 * d' + 200) ≤ _
      omega
  have hW8 : 2 * (F0 mth pc arr (lv ++ rv)).monitorRoom + (rv.map fun v => v.category).sum ≤ 8 := by
    rw [hcatr]
    show 2 * 0 + am_cat r ≤ 8
    omega
  have hh2 : am_hh m2 = [] := ok8 (by omega)
  have hcode : Cond.code (am_mn m2) (am_cd m2) (am_ml m2) (am_re m2) ∈ am_W := by
    have := hm2.2.2.2
    rw [if_pos hh2] at this
    exact this
  have hM := am_vmet (d := d') (m := m2) (as := as) (h := h) w hm2 hcat htr hh2
  have hfix : CallFix p mth cd (am_cd m) (am_ml m) s args am_W (am_mn m).cls := ⟨hx, hb, hml, hown, hts⟩
  obtain ⟨k1, k2, k3, k4⟩ := ok5 (by omega)
  obtain ⟨k5, k6, k7⟩ := ok6 (by omega)
  obtain ⟨b, As, eV, hrec⟩ := am_recv hW hS hH hrc hvs k2 k7
  have hst2 : lv = As.reverse ++ [.ref b] := by rw [← List.reverse_reverse lv, eV]; simp
  have hAs : As.length = am_na m2 - 1 := by
    have : lv.length = As.length + 1 := by rw [hst2]; simp
    omega
  rw [eV] at hvs
  have hp0 : PreV s H (am_mn m2).cls b (am_Pc G as h) As := ⟨am_Pc_blind, hrec k6.1 k6.2, fun U hU hWU => ⟨_, rfl, hvs, by rw [hU]; exact hH, by rw [hU]; exact (hW.kept hS.1 hS.2.1).warm hWU⟩⟩
  have estk : lv ++ rv = As.reverse ++ .ref b :: rv := by rw [hst2]; simp
  have cw := cwV (R := R) (own := (am_mn m).cls) (C := (am_mn m2).cls) (index := idx) (am_na m2 - 1) hts (show GoodIn am_W (wsV (am_mn m).cls idx (am_mn m2).cls (am_mn m2) (Cond.code (am_mn m2) (am_cd m2) (am_ml m2) (am_re m2) :: (am_W ++ am_W))) from fun w h => by
      rcases List.mem_append.mp h with h | h
      · simp only [List.mem_cons, List.not_mem_nil, or_false] at h
        rcases h with rfl | rfl | rfl | rfl
        · exact am_good (ok2 (by omega))
        · exact am_good k1
        · exact am_good k5
        · exact am_good ok1
      · rcases List.mem_cons.mp h with rfl | h
        · exact am_good hcode
        · rcases List.mem_append.mp h with h | h
          · exact am_good h
          · exact am_good h) rfl rfl rfl ⟨rfl, hm2.2.2.1.1, hm2.2.2.1.2, k4⟩ hRm
  have hrun := vx_runV (e := e) (below := below) (meth := meth) (locs := locs) hfix hM cw hp0 (g := F0 mth pc arr (lv ++ rv)) rfl hAs hL.1 estk hW8 hd hbud
  intro T hT X0
  rcases hrun T hT X0 with ⟨ov, st₀, t, T', L, h0, X', hLb, e5, e6, ⟨v', r', h', hv, hrv2, hK, hHM, hF⟩, stp⟩ | ⟨q, st₀, t, T', L, E, ce, h0, X', hLb, e5, e6, ⟨k, h', hk1, hk3, hE, hK, hHM, hF⟩, hce, hcv, hcl, stp⟩
  · cases hv
    obtain ⟨t2, a1, b1⟩ := am_back (am_ret_zero hK) hL hrv hrv2 hHM hF hS h0 hLb e5 hbud.1 hbud.2 T' rfl X'
    exact ⟨t2, stp t2 a1, b1⟩
  · subst hE
    have hfn : am_fnd (am_hd m) k pc (fun q => am_Gl G m p l e R s mth args below meth cd Q (q, ls, [(10, 0)], h', c + (am_cap m2).1, s0 + (am_cap m2).2)) := by
      obtain ⟨k', rfl⟩ : ∃ k', k = k' + 1 := ⟨k - 1, by omega⟩
      cases hh3 : am_hd m with
      | nil => rw [hh3] at hK; exact hK.elim
      | cons a0 b0 => rw [hh3] at hK; exact hK
    obtain ⟨pre, ha, hb', hq, suf, hsp, g1, g2, g3, g4⟩ := am_fnd_split hfn
    obtain ⟨o1, o2⟩ := hho
    have hmem : (ha, hb', hq, k) ∈ am_hd m := by rw [hsp]; simp
    obtain ⟨p1, p2, p3⟩ := o2 _ hmem
    obtain ⟨hz, hkp⟩ := hF
    rw [h0] at hz hkp
    have hcatch : vx_W p l e R s mth args below meth cd T'.heap (locs ++ L) (c + (am_cap m2).1) (s0 + (am_cap m2).2) Q (F0 mth pc arr rv) q := by
      refine vx_catch (name := am_en k) hown (pre.map fun e => ⟨e.1, e.2.1, e.2.2.1, am_ct e.2.2.2⟩) ⟨ha, hb', hq, am_ct k⟩ (suf.map fun e => ⟨e.1, e.2.1, e.2.2.1, am_ct e.2.2.2⟩) ?_ ?_ ?_ (am_ct_pos k) (hts _ p2) (va_Nw.use rfl (hW.1.2.1 _ p3 rfl)) (by rw [e5]; exact hce) hcv hcl ?_
      · rw [htab, o1, hsp]
        unfold tableOf
        simp
        rfl
      · intro z hz9
        obtain ⟨z', hz1, rfl⟩ := List.mem_map.mp hz9
        by_cases hcov : z'.1 ≤ pc ∧ pc < z'.2.1
        · have hne := g4 z' hz1 hcov
          have hmem2 : z' ∈ am_hd m := by rw [hsp]; exact List.mem_append_left _ hz1
          obtain ⟨r1, r2, r3⟩ := o2 _ hmem2
          exact Or.inr ⟨am_ct_pos _, _, hts _ r2, hW.1.2.2.2.2.1 _ _ hk1 hk3 r1.1 r1.2 (fun z => hne z.symm)⟩
        · left
          unfold covers
          simp only [Bool.and_eq_false_iff, decide_eq_false_iff_not]
          by_cases h1 : z'.1 ≤ pc
          · right
            exact fun h2 => hcov ⟨h1, h2⟩
          · left
            exact h1
      · unfold covers
        simp [g1, g2]
      · refine g3 T'.heap (locs ++ L) arr [.ref q] (by rw [e5]; exact hHM) ⟨Nat.le_trans hS.1 (by rw [e5]; exact hz), fun q h1 h2 => ?_, fun q hq => ?_⟩ hL ⟨⟨q, rfl⟩, trivial⟩ hbud.1 hbud.2
        · rw [e5, hkp q (Nat.lt_of_lt_of_le h1 hS.1) h2]
          exact hS.2.1 q h1 h2
        · rcases List.mem_append.mp hq with h | h
          · exact hS.2.2 q h
          · exact hLb q h
    obtain ⟨t2, a1, b1⟩ := hcatch T' rfl X'
    exact ⟨t2, stp.trans a1, b1⟩
theorem am_i_cp (C : am_Cx G l d m p R s mth args meth cd) {idx : Nat} (hw1 : Cond.methodLink (am_mn m).cls idx arraycopyName ∈ am_W) (hw2 : Cond.static arraycopyName ∈ am_W) (hw3 : Cond.initialized "java/lang/System" ∈ am_W) (hw4 : Cond.native arraycopyName ∈ am_W) (hd : decode (am_cd m) pc = .ok (.invokestatic idx, 3))
    (w : am_stp X (am_Gl G m p l e R s mth args below meth cd Q) d hs K (am_pI st fun n r => am_pI r fun j r => am_pR r fun b r => am_pI r fun i r => am_pR r fun a r => am_few r <| am_ck ((am_t h a = 21 ∨ am_t h a = 26) ∧ am_t h b = 21 ∧ ¬ a = b ∧ 0 ≤ n ∧ 0 ≤ i ∧ i + n ≤ am_l h a ∧ 0 ≤ j ∧ j + n ≤ am_l h b) (pc + 3, ls, r, am_cp h a i b j n, c, s0))) : am_Gl G m p l e R s mth args below meth cd Q (pc, ls, st, h, c, s0) := by
  obtain ⟨hx, hb, hml, hown, hts, hW, hR, hlk, htr, hin⟩ := C
  have w1 := am_pI_inv w
  clear w
  obtain ⟨n, r, rfl, w⟩ := w1
  have w1 := am_pI_inv w
  clear w
  obtain ⟨j, r, rfl, w⟩ := w1
  have w1 := am_pR_inv w
  clear w
  obtain ⟨b, r, rfl, w⟩ := w1
  have w1 := am_pI_inv w
  clear w
  obtain ⟨i, r, rfl, w⟩ := w1
  have w1 := am_pR_inv w
  clear w
  obtain ⟨a, r, rfl, w⟩ := w1
  obtain ⟨hfew, ⟨ha, hb2, hab, hn0, hi0, hi1, hj0, hj1⟩, w⟩ := am_few_inv w
  intro H locs arr sv hH hS hL hst hc hs0
  dsimp only at hH hL hst hc hs0 ⊢
  have hq := am_RS_inv hst
  clear hst
  obtain ⟨VN, sv, rfl, ⟨n, rfl, rfl⟩, hst⟩ := hq
  have hq := am_RS_inv hst
  clear hst
  obtain ⟨VJ, sv, rfl, ⟨j, rfl, rfl⟩, hst⟩ := hq
  have hq := am_RS_inv hst
  clear hst
  obtain ⟨VB, sv, rfl, hVB, hst⟩ := hq
  have hq := am_RS_inv hst
  clear hst
  obtain ⟨VI, sv, rfl, ⟨i, rfl, rfl⟩, hst⟩ := hq
  have hq := am_RS_inv hst
  clear hst
  obtain ⟨VA, sv, rfl, hVA, hst⟩ := hq

  obtain ⟨ga1, ga2⟩ := hH.2.2 a (by omega)
  obtain ⟨gb1, gb2⟩ := hH.2.2 b (by omega)
  cases am_RVr hVA ga1.1
  cases am_RVr hVB gb1.1
  obtain ⟨nb, g, fb1, fb2, fb3, fb4⟩ := (am_CO_y hb2).mp gb2
  have hcat := am_RS_cat hst
  have hK : va_K (eD G) vwCl [(eI G, .int), (eY G, .byte), (eJ G, .long), (eZ G, .boolean), (eQ G, .array .int), (eR G, .array .boolean)] s := hW.1.1
  have en : (n.toNatClampNeg : Int) = n.toInt := by
    show ((n.toInt.toNat : Nat) : Int) = _
    omega
  have ei : (i.toNatClampNeg : Int) = i.toInt := by
    show ((i.toInt.toNat : Nat) : Int) = _
    omega
  have ej : (j.toNatClampNeg : Int) = j.toInt := by
    show ((j.toInt.toNat : Nat) : Int) = _
    omega
  have h0i : (0 : Int32).toInt = 0 := rfl
  have i1 : ¬ i < 0 := fun z => by have := Int32.lt_iff_toInt_lt.mp z; omega
  have i2 : ¬ j < 0 := fun z => by have := Int32.lt_iff_toInt_lt.mp z; omega
  have i3 : ¬ n < 0 := fun z => by have := Int32.lt_iff_toInt_lt.mp z; omega
  have h5 : j.toNatClampNeg + n.toNatClampNeg ≤ nb := by omega
  -- the source: its cell and what is copied
  obtain ⟨ca, f, fa1, fa2, fa3, fa4, fa5, fa6⟩ : ∃ (ca : Cell) (f : Nat → Int32), H[ea G a]? = some ca ∧ s.isArrayOf ca .byte ∧ ca.vm ≠ .unknown ∧ i.toNatClampNeg + n.toNatClampNeg ≤ ca.slots.size ∧ (∀ k : Nat, k < i.toNatClampNeg + n.toNatClampNeg → ca.slots[k]? = some (.int (f k)) ∧ am_m h a (k : Int) = (f k).toInt ∧ -128 ≤ (f k).toInt ∧ (f k).toInt ≤ 127) ∧ ∀ q, ca.vm ≠ .statics q := by
    rcases ha with ha | ha
    · obtain ⟨na, f, e1, e2, e3, e4⟩ := (am_CO_y ha).mp ga2
      refine ⟨_, f, e1, (hK.2 1 _ rfl).1 na (fun j => .int (f j)), fun h => (by cases h), by rw [arrV_size]; omega, fun k hk => ⟨arrV_read _ _ (by omega), e4 k (by omega)⟩, fun q h => by cases h⟩
    · obtain ⟨j9, j1, j2, j3, j4⟩ := (am_CO_b ha).mp ga2
      obtain ⟨N, ⟨cell, q1, q2, q3, q4, q5, q6, q7⟩, s5, s6, s7⟩ := am_cTf hW j1
      have e9 : ea G a = ev G j9 := by rw [j2]; exact am_ea_v G j9
      rw [e9]
      refine ⟨cell, fun k => Int32.ofInt (am_kc j9 (k : Int)), by rw [hS.2.1 _ (Array.getElem?_eq_some_iff.mp q1).1 q7]; exact q1, q2, q3, by omega, fun k hk => ⟨q6 k (by omega), ?_⟩, q2.1⟩
      have := s7 k (by omega)
      rw [am_ofInt (by omega), j4 _ (by omega) (by omega)]
      exact ⟨rfl, by omega, by omega⟩
  intro T hT X0
  obtain ⟨-, k0, hk0, cm0, hkk0⟩ := (hK.2 1 _ rfl).1 nb (fun j => .int (g j))
  obtain ⟨-, k9, hk9, cm9, hkk9⟩ := fa2
  have hc1 : H[ea G b]? = some (vp_cell (eY G) (nb, .inl g)) := fb1
  have hfr := hR.1
  have hlo := hR.2.1
  have hnf : nativeFrameWords "java/lang/System" "arraycopy" 5 ≤ 60 := by decide +kernel
  have hval : ∀ i' : Nat, i' < n.toNatClampNeg → ca.slots.getD (i.toNatClampNeg + i') .null = .int (f (i.toNatClampNeg + i')) := fun i' hi' => by
    rw [Array.getD_eq_getD_getElem?, (fa5 _ (by omega)).1]
    rfl
  obtain ⟨vm', X', step⟩ := X0.arraycopy hx hown (hts _ hw1) (hts _ hw4) (hts _ hw2) (hts _ hw3) (src := ea G a) (dst := ea G b) (cs := ca) (cd := vp_cell (eY G) (nb, .inl g)) (srcPos := i) (destPos := j) (n := n) (by rw [hT]; exact fa1) (by rw [hT]; exact hc1)
    fa6 (fun _ h => by cases h) fa3 (fun h => by cases h) hk9 hk0 hkk9 hkk0 (by simp [refKind]) i1 i2 i3
    (by show ¬ _ > (ca.slots.size : Int); omega)
    (by show ¬ _ > ((arrV (eY G) nb (fun j => .int (g j))).slots.size : Int); rw [arrV_size]; omega)
    (fun vm₁ _ i' hi' => by
      obtain ⟨-, -, z1, z2⟩ := fa5 (i.toNatClampNeg + i') (by omega)
      refine ⟨?_, ?_⟩
      · rw [hval i' hi']
        rw [← fb_byte0 z1 (by omega)]
        exact pk_fb _
      · rw [hval i' hi']
        exact trivial)
    (g := F0 mth pc arr (.int n :: .int j :: .ref (ea G b) :: .int i :: .ref (ea G a) :: sv)) rfl (hL.1.trans hml.symm) (rest := sv) rfl (by rw [hb]; exact hd) (by omega) (by show 2 * 0 + _ + (nativeFrameWords "java/lang/System" "arraycopy" 5 + 11) ≤ _; rw [hcat]; omega)
  have e1 : copied ca (vp_cell (eY G) (nb, .inl g)) i j n = vp_cell (eY G) (nb, .inl (va_cpy f g i.toNatClampNeg j.toNatClampNeg n.toNatClampNeg)) := va_copiedX (fun z => .int z) ca (eY G) (n0 := i.toNatClampNeg + n.toNatClampNeg) f g (fun k hk => (fa5 k hk).1) (Nat.le_refl _)
  rw [e1] at X' step
  have hl : ea G b < H.size := (Array.getElem?_eq_some_iff.mp hc1).1
  have hheap : ((T.setVm vm').setCell (ea G b) (vp_cell (eY G) (nb, .inl (va_cpy f g i.toNatClampNeg j.toNatClampNeg n.toNatClampNeg)))).heap = H.setIfInBounds (ea G b) (vp_cell (eY G) (nb, .inl (va_cpy f g i.toNatClampNeg j.toNatClampNeg n.toNatClampNeg))) := by rw [← hT]; rfl
  have oq : ∀ q : Nat, q ≠ ea G b → (H.setIfInBounds (ea G b) (vp_cell (eY G) (nb, .inl (va_cpy f g i.toNatClampNeg j.toNatClampNeg n.toNatClampNeg))))[q]? = H[q]? := fun q hq => by simp [Array.getElem?_setIfInBounds, Ne.symm hq]
  have own1 : (H.setIfInBounds (ea G b) (vp_cell (eY G) (nb, .inl (va_cpy f g i.toNatClampNeg j.toNatClampNeg n.toNatClampNeg))))[ea G b]? = some (arrV (eY G) nb (fun k => .int (va_cpy f g i.toNatClampNeg j.toNatClampNeg n.toNatClampNeg k))) := by
    simp [Array.getElem?_setIfInBounds, hl]
    rfl
  have hHM : am_HM G (am_cp h a i.toInt b j.toInt n.toInt) (H.setIfInBounds (ea G b) (vp_cell (eY G) (nb, .inl (va_cpy f g i.toNatClampNeg j.toNatClampNeg n.toNatClampNeg)))) := by
    refine am_HM_set hH (a := b) ⟨by omega, by omega, by omega⟩ (by simp) oq rfl rfl (fun _ => rfl) (fun _ => rfl) (fun _ => rfl) (fun q k hq => ?_) ?_
    · show (if q = b ∧ _ ∧ _ then _ else _) = _
      rw [if_neg (fun z => hq z.1)]
      rfl
    · refine (am_CO_y (h := am_cp h a i.toInt b j.toInt n.toInt) hb2).mpr ⟨nb, _, own1, fb2, fb3, fun k hk => ?_⟩
      show (if b = b ∧ j.toInt ≤ (k : Int) ∧ (k : Int) < j.toInt + n.toInt then am_m h a (i.toInt + ((k : Int) - j.toInt)) else am_m h b (k : Int)) = _ ∧ _
      unfold va_cpy
      by_cases hk2 : j.toNatClampNeg ≤ k ∧ k < j.toNatClampNeg + n.toNatClampNeg
      · rw [if_pos (by omega), if_pos hk2, show i.toInt + ((k : Int) - j.toInt) = ((i.toNatClampNeg + (k - j.toNatClampNeg) : Nat) : Int) by omega]
        obtain ⟨-, z0, z1, z2⟩ := fa5 (i.toNatClampNeg + (k - j.toNatClampNeg)) (by omega)
        exact ⟨z0, z1, z2⟩
      · rw [if_neg (by omega), if_neg hk2]
        exact fb4 k hk
  obtain ⟨t, a1, b1⟩ := w _ _ arr sv hHM ⟨by simp; exact hS.1, fun q g1 g2 => by
      rw [oq q (fun z => g2 (by rw [z]; exact (hH.w (a := b) ⟨by omega, by omega, by omega⟩).2.1))]
      exact hS.2.1 q g1 g2, fun q hq => by
      rcases List.mem_append.mp hq with h | h
      · exact hS.2.2 q h
      · obtain ⟨z, -, hz⟩ := List.mem_map.mp h
        rw [← hz]
        exact (hH.w (a := b) ⟨by omega, by omega, by omega⟩).2.1⟩ hL hst hc hs0 _ hheap X'
  exact ⟨t, step t a1, b1⟩
end SIM
