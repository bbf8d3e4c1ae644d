/-! ===== calls, a kind each ===== -/
section SIM
variable {G : am_En} {l : Launch} {d m : Nat} {p : Program} {e : Env} {R : Room} {s : State} {mth : MethodId} {args : Array Value} {below : List Frame} {meth : Method} {cd : Code} {Q : State → Prop} {K : AK} {hs : List (Nat × Nat × Nat × Nat)}
variable {pc : Nat} {ls st : List AV} {h : AH} {c s0 : Nat}
/-- what a place that calls m2 needs of the tables: kind 0 a method of an object, 1 of a nest mate's, 2 static, 3 a nest mate's static, 4 a constructor, 5 a nest mate's, 14 a method that may throw, 15 a static one with a table -/
def am_cok (m pc kind idx m2 r3 : Nat) : Prop := am_mok m2 ∧ Cond.initialized (am_mn m2).cls ∈ am_W ∧
  ((kind = 0 ∨ kind = 2 ∨ kind = 4 ∨ kind = 14 ∨ kind = 15) → Cond.methodLink (am_mn m).cls idx (am_mn m2) ∈ am_W) ∧ ((kind = 1 ∨ kind = 3 ∨ kind = 5) → ∃ host, Cond.methodLinkNest (am_mn m).cls idx (am_mn m2) host ∈ lw_tbl) ∧
  ((kind = 2 ∨ kind = 3 ∨ kind = 15) → Cond.static (am_mn m2) ∈ am_W ∧ r3 = 0 ∧ (parseMethodDescriptor (am_mn m2).desc).map (fun d => d.parameters.length) = some (am_na m2)) ∧
  ((kind = 0 ∨ kind = 1 ∨ kind = 4 ∨ kind = 5 ∨ kind = 14) → Cond.instanceMethod (am_mn m2) ∈ am_W ∧ r3 ≠ 0 ∧ 1 ≤ am_na m2 ∧ (parseMethodDescriptor (am_mn m2).desc).map (fun d => d.parameters.length) = some (am_na m2 - 1)) ∧
  ((kind = 0 ∨ kind = 1 ∨ kind = 14) → Cond.selects (am_mn m2).cls (am_mn m2) (am_mn m2) ∈ am_W ∧ (r3 ≠ 61 ∧ r3 ≠ 62) ∧ ((r3 = 60 ∧ (am_mn m2).cls = "java/lang/String") ∨ r3 = 61 ∨ r3 = 62 ∨ (r3 ≠ 60 ∧ r3 ≠ 61 ∧ r3 ≠ 62 ∧ 1 ≤ r3 ∧ r3 ≤ 9 ∧ ∃ q : vw_C, vwCl[r3 - 1]? = some q ∧ q.1 = (am_mn m2).cls))) ∧
  ((kind = 4 ∨ kind = 5) → (am_mn m2).name = "<init>" ∧ (r3 = 61 ∨ r3 = 62) ∧ am_re m2 = none) ∧
  (kind ≠ 15 → am_hh m2 = []) ∧ (kind = 15 → am_hh m2 ≠ []) ∧ (kind ≠ 14 → am_unc (am_hd m) pc = true)
/-- what a place that calls a method that StringBuilder inherits needs of the tables: 8 the same, 10 one that StringBuilder has anew, 9 super's -/
def am_aN : String := "java/lang/AbstractStringBuilder"
def am_bN : String := "java/lang/StringBuilder"
def am_uok (m pc kind idx m2 : Nat) : Prop := am_mok m2 ∧ Cond.initialized (am_mn m2).cls ∈ am_W ∧ Cond.instanceMethod (am_mn m2) ∈ am_W ∧ 1 ≤ am_na m2 ∧ (parseMethodDescriptor (am_mn m2).desc).map (fun d => d.parameters.length) = some (am_na m2 - 1) ∧ am_hh m2 = [] ∧ am_unc (am_hd m) pc = true ∧
  (kind = 8 → (am_mn m2).cls = am_aN ∧ Cond.methodLink (am_mn m).cls idx (am_mn m2) ∈ am_W ∧ Cond.sameMethod am_aN am_aN (am_mn m2).name (am_mn m2).desc ∈ am_W ∧ Cond.selects am_bN (am_mn m2) (am_mn m2) ∈ am_W) ∧
  (kind = 10 → am_mn m2 = ⟨am_bN, "length", "()I"⟩ ∧ Cond.methodLink (am_mn m).cls idx ⟨am_aN, "length", "()I"⟩ ∈ am_W ∧ Cond.sameMethod am_aN am_aN "length" "()I" ∈ am_W ∧ Cond.instanceMethod ⟨am_aN, "length", "()I"⟩ ∈ am_W ∧ Cond.selects am_bN ⟨am_aN, "length", "()I"⟩ ⟨am_bN, "length", "()I"⟩ ∈ am_W ∧ ∃ b0 m0 r0, Cond.code ⟨am_aN, "length", "()I"⟩ b0 m0 r0 ∈ am_W) ∧
  (kind = 9 → (am_mn m2).cls = am_aN ∧ (am_mn m2).name ≠ "<init>" ∧ Cond.methodLink (am_mn m).cls idx (am_mn m2) ∈ am_W ∧ Cond.sameMethod am_aN am_aN (am_mn m2).name (am_mn m2).desc ∈ am_W ∧ Cond.superclass (am_mn m).cls am_aN ∈ am_W)
/-- a private method is selected for a builder too -/
theorem am_sel_priv {y : MethodName} {s : State} {args : Array Value} {n : Nat} (hy : y.cls ≠ "java/lang/invoke/MethodHandle" ∧ y.cls ≠ "java/lang/invoke/VarHandle") (hins : (Cond.instantiable am_bN n).before args s = true) (hpriv : (Cond.privateMethod y).before args s = true) (hinst : (Cond.instanceMethod y).before args s = true) (hsame : (Cond.sameMethod y.cls y.cls y.name y.desc).before args s = true) : (Cond.selects am_bN y y).before args s = true := by
  obtain ⟨c, k, hc, hk, -, hniab, -, -⟩ := Cond.instantiable_spec hins
  have hni : k.isInterface = false := (Bool.or_eq_false_iff.mp hniab).1
  obtain ⟨mk, methM, hnamed, hmethM, -, -⟩ := Cond.instanceMethod_spec hinst
  have hfound : s.methodFound? y.cls y.name y.desc = some mk := State.methodFound?_of_named hnamed hy
  have hsel : selectMethod {} s.vm c mk = .method mk := selectMethod_private hmethM (Cond.privateMethod_at hpriv mk methM hnamed hmethM)
  have hyc : s.vm.findClass y.cls = some mk.cls := findClass_of_methodNamed hnamed
  have hni2 : Option.any (fun x => !x.isInterface) s.vm.classes[mk.cls]? = true := by
    simp only [Cond.before, Cond.holds, Cond.value, hyc, hfound, hnamed] at hsame
    simpa using hsame
  simp only [Cond.before, Cond.holds, Cond.value, hc, hfound, hnamed, hsel, hk]
  simp
  exact hni2
theorem am_i_stat (C : am_Cx G l d m p R s mth args meth cd) {idx kind m2 r3 : Nat} (hk : kind = 2 ∨ kind = 3) (hok : am_cok m pc kind idx m2 r3) (hd : decode (am_cd m) pc = .ok (.invokestatic idx, 3)) (w : am_stp (am_Sim G l) (am_Gl G m p l e R s mth args below meth cd Q) d (am_hd m) K (am_inv kind m2 r3 (am_cap m2) (am_cap m) (am_ml m2) (am_na m2) (am_rtt m2) pc ls st h c s0)) : am_Gl G m p l e R s mth args below meth cd Q (pc, ls, st, h, c, s0) := by
  have w1 := am_inv_inv w
  clear w
  obtain ⟨as, r, hp, hc8, hcat, hrc, hcap, w⟩ := w1
  have w1 := am_dn_inv w
  clear w
  obtain ⟨d', rfl, w⟩ := w1
  obtain ⟨l0, e1, e2, e3⟩ := am_pop_spec hp
  rw [List.append_nil] at e1
  subst e2
  obtain ⟨hm2, ok1, ok2, ok3, ok4, ok5, ok6, ok7, ok8, ok9, ok10⟩ := hok
  have hCx := C
  obtain ⟨hx, hb, hml, hown, hts, hW, hR, hlk, htr, hin⟩ := C
  intro H locs arr sv hH hS hL hst hc hs0
  dsimp only at hH hL hst hc hs0 ⊢
  obtain ⟨lv, rv, rfl, hlv, hrv⟩ := am_RS_app hst
  have hvs : am_RS G as lv.reverse := by rw [e1]; exact am_RS_rev hlv
  have hlen := am_RS_len hlv
  have hcatr := am_RS_cat hrv
  have hbud : c + (am_cap m2).1 ≤ R.cells ∧ s0 + (am_cap m2).2 ≤ R.slots := by
    have := hR.2.2
    rcases hcap with hcap | hcap
    · rw [hcap]; exact ⟨hc, hs0⟩
    · omega
  have hRm : (am_rm d' m2).frames + 1 ≤ R.frames ∧ 8 + (am_ml m2 + 11) + (am_rm d' m2).locals ≤ R.locals := by
    have h1 := hR.1
    have h2 := hR.2.1
    have h3 := hm2.2.1
    refine ⟨?_, ?_⟩
    · show d' + 8 + 1 ≤ _
      omega
    · show 8 + (am_ml m2 + 11) + (40 * d' + 200) ≤ _
      omega
  have hW8 : 2 * (F0 mth pc arr (lv ++ rv)).monitorRoom + (rv.map fun v => v.category).sum ≤ 8 := by
    rw [hcatr]
    show 2 * 0 + am_cat r ≤ 8
    omega
  have hun := ok10 (by omega)
  have hh2 : am_hh m2 = [] := ok8 (by omega)
  have hcode : Cond.code (am_mn m2) (am_cd m2) (am_ml m2) (am_re m2) ∈ am_W := by
    have := hm2.2.2.2
    rw [if_pos hh2] at this
    exact this
  have hM := am_met (d := d') (m := m2) (as := as) (h := h) w (fun k v h' => am_unc_no hun) hm2 hcat htr hh2
  have hfix : CallFix p mth cd (am_cd m) (am_ml m) s args am_W (am_mn m).cls := ⟨hx, hb, hml, hown, hts⟩
  obtain ⟨k1, k2, k3⟩ := ok4 (by omega)
  have hp0 : PreS s H (am_Pc G as h) lv.reverse := ⟨am_Pc_blind, fun U hU hWU => ⟨_, rfl, hvs, by rw [hU]; exact hH, by rw [hU]; exact (hW.kept hS.1 hS.2.1).warm hWU⟩⟩
  rcases hk with hk | hk
  · have cw := va_cwS (R := R) (own := (am_mn m).cls) (index := idx) (am_na m2) hts (show GoodIn am_W (va_wsS (am_mn m).cls idx (am_mn m2) (am_GI m2)) from fun w h => by
        rcases List.mem_append.mp h with h | h
        · simp only [List.mem_cons, List.not_mem_nil, or_false] at h
          rcases h with rfl | rfl | rfl
          · exact am_good (ok2 (by omega))
          · exact am_good k1
          · exact am_good ok1
        · exact am_GI_in hcode w h) rfl rfl rfl ⟨hm2.2.2.1.1, hm2.2.2.1.2, k3⟩ hRm
    exact am_after (rt := am_rtt m2) (va_runS hfix hM cw hp0 rfl (by simp; omega) hL.1 (by simp) hW8 hd hbud) (fun v h' z => am_ret_zero z) hL hrv hS hbud.1 hbud.2
  · obtain ⟨host, k4⟩ := ok3 (by omega)
    have cw := va_cnB (R := R) (rm := am_rm d' m2) (mc := (am_cap m2).1) (ms := (am_cap m2).2) (am_na m2) hts (am_GI_in hcode) rfl rfl rfl (hW.1.2.1 _ k4 rfl) (hts _ ok1) ⟨hm2.2.2.1.1, hm2.2.2.1.2, k3⟩ hRm
    exact am_after (rt := am_rtt m2) (va_runSN hfix hM ⟨cw, hts _ k1, trivial⟩ hp0 rfl (by simp; omega) hL.1 (by simp) hW8 hd hbud) (fun v h' z => am_ret_zero z) hL hrv hS hbud.1 hbud.2
theorem am_i_virt (C : am_Cx G l d m p R s mth args meth cd) {idx kind m2 r3 : Nat} (hk : kind = 0 ∨ kind = 1) (hok : am_cok m pc kind idx m2 r3) (hd : decode (am_cd m) pc = .ok (.invokevirtual idx, 3)) (w : am_stp (am_Sim G l) (am_Gl G m p l e R s mth args below meth cd Q) d (am_hd m) K (am_inv kind m2 r3 (am_cap m2) (am_cap m) (am_ml m2) (am_na m2) (am_rtt m2) pc ls st h c s0)) : am_Gl G m p l e R s mth args below meth cd Q (pc, ls, st, h, c, s0) := by
  have w1 := am_inv_inv w
  clear w
  obtain ⟨as, r, hp, hc8, hcat, hrc, hcap, w⟩ := w1
  have w1 := am_dn_inv w
  clear w
  obtain ⟨d', rfl, w⟩ := w1
  obtain ⟨l0, e1, e2, e3⟩ := am_pop_spec hp
  rw [List.append_nil] at e1
  subst e2
  obtain ⟨hm2, ok1, ok2, ok3, ok4, ok5, ok6, ok7, ok8, ok9, ok10⟩ := hok
  have hCx := C
  obtain ⟨hx, hb, hml, hown, hts, hW, hR, hlk, htr, hin⟩ := C
  intro H locs arr sv hH hS hL hst hc hs0
  dsimp only at hH hL hst hc hs0 ⊢
  obtain ⟨lv, rv, rfl, hlv, hrv⟩ := am_RS_app hst
  have hvs : am_RS G as lv.reverse := by rw [e1]; exact am_RS_rev hlv
  have hlen := am_RS_len hlv
  have hcatr := am_RS_cat hrv
  have hbud : c + (am_cap m2).1 ≤ R.cells ∧ s0 + (am_cap m2).2 ≤ R.slots := by
    have := hR.2.2
    rcases hcap with hcap | hcap
    · rw [hcap]; exact ⟨hc, hs0⟩
    · omega
  have hRm : (am_rm d' m2).frames + 1 ≤ R.frames ∧ 8 + (am_ml m2 + 11) + (am_rm d' m2).locals ≤ R.locals := by
    have h1 := hR.1
    have h2 := hR.2.1
    have h3 := hm2.2.1
    refine ⟨?_, ?_⟩
    · show d' + 8 + 1 ≤ _
      omega
    · show 8 + (am_ml m2 + 11) + (40 * d' + 200) ≤ _
      omega
  have hW8 : 2 * (F0 mth pc arr (lv ++ rv)).monitorRoom + (rv.map fun v => v.category).sum ≤ 8 := by
    rw [hcatr]
    show 2 * 0 + am_cat r ≤ 8
    omega
  have hun := ok10 (by omega)
  have hh2 : am_hh m2 = [] := ok8 (by omega)
  have hcode : Cond.code (am_mn m2) (am_cd m2) (am_ml m2) (am_re m2) ∈ am_W := by
    have := hm2.2.2.2
    rw [if_pos hh2] at this
    exact this
  have hM := am_met (d := d') (m := m2) (as := as) (h := h) w (fun k v h' => am_unc_no hun) hm2 hcat htr hh2
  have hfix : CallFix p mth cd (am_cd m) (am_ml m) s args am_W (am_mn m).cls := ⟨hx, hb, hml, hown, hts⟩
  obtain ⟨k1, k2, k3, k4⟩ := ok5 (by omega)
  obtain ⟨k5, k6, k7⟩ := ok6 (by omega)
  obtain ⟨b, As, eV, hrec⟩ := am_recv hW hS hH hrc hvs k2 k7
  have hst2 : lv = As.reverse ++ [.ref b] := by rw [← List.reverse_reverse lv, eV]; simp
  have hAs : As.length = am_na m2 - 1 := by
    have : lv.length = As.length + 1 := by rw [hst2]; simp
    omega
  rw [eV] at hvs
  have hp0 : PreV s H (am_mn m2).cls b (am_Pc G as h) As := ⟨am_Pc_blind, hrec k6.1 k6.2, fun U hU hWU => ⟨_, rfl, hvs, by rw [hU]; exact hH, by rw [hU]; exact (hW.kept hS.1 hS.2.1).warm hWU⟩⟩
  have estk : lv ++ rv = As.reverse ++ .ref b :: rv := by rw [hst2]; simp
  rcases hk with hk | hk
  · have cw := cwV (R := R) (own := (am_mn m).cls) (C := (am_mn m2).cls) (index := idx) (am_na m2 - 1) hts (show GoodIn am_W (wsV (am_mn m).cls idx (am_mn m2).cls (am_mn m2) (am_GI m2)) from fun w h => by
        rcases List.mem_append.mp h with h | h
        · simp only [List.mem_cons, List.not_mem_nil, or_false] at h
          rcases h with rfl | rfl | rfl | rfl
          · exact am_good (ok2 (by omega))
          · exact am_good k1
          · exact am_good k5
          · exact am_good ok1
        · exact am_GI_in hcode w h) rfl rfl rfl ⟨rfl, hm2.2.2.1.1, hm2.2.2.1.2, k4⟩ hRm
    exact am_after (rt := am_rtt m2) (va_runV hfix hM cw hp0 rfl hAs hL.1 estk hW8 hd hbud) (fun v h' z => am_ret_zero z) hL hrv hS hbud.1 hbud.2
  · obtain ⟨host, k8⟩ := ok3 (by omega)
    have cw := va_cnB (R := R) (rm := am_rm d' m2) (mc := (am_cap m2).1) (ms := (am_cap m2).2) (am_na m2 - 1) hts (am_GI_in hcode) rfl rfl rfl (hW.1.2.1 _ k8 rfl) (hts _ ok1) ⟨hm2.2.2.1.1, hm2.2.2.1.2, k4⟩ hRm
    exact am_after (rt := am_rtt m2) (va_runVN hfix hM ⟨cw, hts _ k1, hts _ k5⟩ hp0 rfl hAs hL.1 estk hW8 hd hbud) (fun v h' z => am_ret_zero z) hL hrv hS hbud.1 hbud.2
theorem am_i_spec (C : am_Cx G l d m p R s mth args meth cd) {idx kind m2 r3 : Nat} (hk : kind = 4 ∨ kind = 5) (hok : am_cok m pc kind idx m2 r3) (hd : decode (am_cd m) pc = .ok (.invokespecial idx, 3)) (w : am_stp (am_Sim G l) (am_Gl G m p l e R s mth args below meth cd Q) d (am_hd m) K (am_inv kind m2 r3 (am_cap m2) (am_cap m) (am_ml m2) (am_na m2) (am_rtt m2) pc ls st h c s0)) : am_Gl G m p l e R s mth args below meth cd Q (pc, ls, st, h, c, s0) := by
  have w1 := am_inv_inv w
  clear w
  obtain ⟨as, r, hp, hc8, hcat, hrc, hcap, w⟩ := w1
  have w1 := am_dn_inv w
  clear w
  obtain ⟨d', rfl, w⟩ := w1
  obtain ⟨l0, e1, e2, e3⟩ := am_pop_spec hp
  rw [List.append_nil] at e1
  subst e2
  obtain ⟨hm2, ok1, ok2, ok3, ok4, ok5, ok6, ok7, ok8, ok9, ok10⟩ := hok
  have hCx := C
  obtain ⟨hx, hb, hml, hown, hts, hW, hR, hlk, htr, hin⟩ := C
  intro H locs arr sv hH hS hL hst hc hs0
  dsimp only at hH hL hst hc hs0 ⊢
  obtain ⟨lv, rv, rfl, hlv, hrv⟩ := am_RS_app hst
  have hvs : am_RS G as lv.reverse := by rw [e1]; exact am_RS_rev hlv
  have hlen := am_RS_len hlv
  have hcatr := am_RS_cat hrv
  have hbud : c + (am_cap m2).1 ≤ R.cells ∧ s0 + (am_cap m2).2 ≤ R.slots := by
    have := hR.2.2
    rcases hcap with hcap | hcap
    · rw [hcap]; exact ⟨hc, hs0⟩
    · omega
  have hRm : (am_rm d' m2).frames + 1 ≤ R.frames ∧ 8 + (am_ml m2 + 11) + (am_rm d' m2).locals ≤ R.locals := by
    have h1 := hR.1
    have h2 := hR.2.1
    have h3 := hm2.2.1
    refine ⟨?_, ?_⟩
    · show d' + 8 + 1 ≤ _
      omega
    · show 8 + (am_ml m2 + 11) + (40 * d' + 200) ≤ _
      omega
  have hW8 : 2 * (F0 mth pc arr (lv ++ rv)).monitorRoom + (rv.map fun v => v.category).sum ≤ 8 := by
    rw [hcatr]
    show 2 * 0 + am_cat r ≤ 8
    omega
  have hun := ok10 (by omega)
  have hh2 : am_hh m2 = [] := ok8 (by omega)
  have hcode : Cond.code (am_mn m2) (am_cd m2) (am_ml m2) (am_re m2) ∈ am_W := by
    have := hm2.2.2.2
    rw [if_pos hh2] at this
    exact this
  have hM := am_met (d := d') (m := m2) (as := as) (h := h) w (fun k v h' => am_unc_no hun) hm2 hcat htr hh2
  have hfix : CallFix p mth cd (am_cd m) (am_ml m) s args am_W (am_mn m).cls := ⟨hx, hb, hml, hown, hts⟩
  obtain ⟨k1, k2, k3, k4⟩ := ok5 (by omega)
  obtain ⟨k5, k6, k7⟩ := ok7 (by omega)
  obtain ⟨b, As, eV, -⟩ := am_recv (C := "") hW hS hH hrc hvs k2 (by rcases k6 with k6 | k6; exact Or.inr (Or.inl k6); exact Or.inr (Or.inr (Or.inl k6)))
  have hst2 : lv = As.reverse ++ [.ref b] := by rw [← List.reverse_reverse lv, eV]; simp
  have hAs : As.length = am_na m2 - 1 := by
    have : lv.length = As.length + 1 := by rw [hst2]; simp
    omega
  rw [eV] at hvs
  have hp0 : PreS s H (am_Pc G as h) (.ref b :: As) := ⟨am_Pc_blind, fun U hU hWU => ⟨_, rfl, hvs, by rw [hU]; exact hH, by rw [hU]; exact (hW.kept hS.1 hS.2.1).warm hWU⟩⟩
  have estk : lv ++ rv = As.reverse ++ .ref b :: rv := by rw [hst2]; simp
  rw [k7] at hM hcode
  have hGI : GoodIn am_W (Cond.code (am_mn m2) (am_cd m2) (am_ml m2) none :: am_W) := by
    intro w h
    rcases List.mem_cons.mp h with rfl | h
    · exact am_good hcode
    · exact am_good h
  rcases hk with hk | hk
  · have cw := cwI (R := R) (own := (am_mn m).cls) (index := idx) (am_na m2 - 1) hts hGI rfl rfl rfl (hts _ ok1) (hts _ (ok2 (by omega))) (hts _ k1) k5 ⟨hm2.2.2.1.1, hm2.2.2.1.2, k4⟩ hRm
    exact am_after (rt := am_rtt m2) (va_runI hfix hM cw hp0 rfl hAs hL.1 estk hW8 hd hbud) (fun v h' z => am_ret_zero z) hL hrv hS hbud.1 hbud.2
  · obtain ⟨host, k8⟩ := ok3 (by omega)
    have cw := va_cnB (R := R) (rm := am_rm d' m2) (mc := (am_cap m2).1) (ms := (am_cap m2).2) (am_na m2 - 1) hts hGI rfl rfl rfl (hW.1.2.1 _ k8 rfl) (hts _ ok1) ⟨hm2.2.2.1.1, hm2.2.2.1.2, k4⟩ hRm
    exact am_after (rt := am_rtt m2) (va_runIN hfix hM ⟨cw, k5, hts _ k1⟩ hp0 rfl hAs hL.1 estk hW8 hd hbud) (fun v h' z => am_ret_zero z) hL hrv hS hbud.1 hbud.2
theorem am_i_virtU (C : am_Cx G l d m p R s mth args meth cd) {idx kind m2 : Nat} (hk : kind = 8 ∨ kind = 10) (hok : am_uok m pc kind idx m2) (hd : decode (am_cd m) pc = .ok (.invokevirtual idx, 3)) (w : am_stp (am_Sim G l) (am_Gl G m p l e R s mth args below meth cd Q) d (am_hd m) K (am_inv kind m2 8 (am_cap m2) (am_cap m) (am_ml m2) (am_na m2) (am_rtt m2) pc ls st h c s0)) : am_Gl G m p l e R s mth args below meth cd Q (pc, ls, st, h, c, s0) := by
  have w1 := am_inv_inv w
  clear w
  obtain ⟨as, r, hp, hc8, hcat, hrc, hcap, w⟩ := w1
  have w1 := am_dn_inv w
  clear w
  obtain ⟨d', rfl, w⟩ := w1
  obtain ⟨l0, e1, e2, e3⟩ := am_pop_spec hp
  rw [List.append_nil] at e1
  subst e2
  obtain ⟨hm2, ok1, k1, k3, k4, hh2, hun, u8, u10, u9⟩ := hok
  have hCx := C
  obtain ⟨hx, hb, hml, hown, hts, hW, hR, hlk, htr, hin⟩ := C
  intro H locs arr sv hH hS hL hst hc hs0
  dsimp only at hH hL hst hc hs0 ⊢
  obtain ⟨lv, rv, rfl, hlv, hrv⟩ := am_RS_app hst
  have hvs : am_RS G as lv.reverse := by rw [e1]; exact am_RS_rev hlv
  have hlen := am_RS_len hlv
  have hcatr := am_RS_cat hrv
  have hbud : c + (am_cap m2).1 ≤ R.cells ∧ s0 + (am_cap m2).2 ≤ R.slots := by
    have := hR.2.2
    rcases hcap with hcap | hcap
    · rw [hcap]; exact ⟨hc, hs0⟩
    · omega
  have hRm : (am_rm d' m2).frames + 1 ≤ R.frames ∧ 8 + (am_ml m2 + 11) + (am_rm d' m2).locals ≤ R.locals := by
    have h1 := hR.1
    have h2 := hR.2.1
    have h3 := hm2.2.1
    refine ⟨?_, ?_⟩
    · show d' + 8 + 1 ≤ _
      omega
    · show 8 + (am_ml m2 + 11) + (40 * d' + 200) ≤ _
      omega
  have hW8 : 2 * (F0 mth pc arr (lv ++ rv)).monitorRoom + (rv.map fun v => v.category).sum ≤ 8 := by
    rw [hcatr]
    show 2 * 0 + am_cat r ≤ 8
    omega
  have hcode : Cond.code (am_mn m2) (am_cd m2) (am_ml m2) (am_re m2) ∈ am_W := by
    have := hm2.2.2.2
    rw [if_pos hh2] at this
    exact this
  have hM := am_met (d := d') (m := m2) (as := as) (h := h) w (fun k v h' => am_unc_no hun) hm2 hcat htr hh2
  have hfix : CallFix p mth cd (am_cd m) (am_ml m) s args am_W (am_mn m).cls := ⟨hx, hb, hml, hown, hts⟩
  obtain ⟨b, As, eV, hrec⟩ := am_recv (C := am_bN) hW hS hH hrc hvs (by omega) (Or.inr (Or.inr (Or.inr ⟨by omega, by omega, by omega, by omega, by omega, _, rfl, rfl⟩)))
  have hst2 : lv = As.reverse ++ [.ref b] := by rw [← List.reverse_reverse lv, eV]; simp
  have hAs : As.length = am_na m2 - 1 := by
    have : lv.length = As.length + 1 := by rw [hst2]; simp
    omega
  rw [eV] at hvs
  have hp0 : PreV s H am_bN b (am_Pc G as h) As := ⟨am_Pc_blind, hrec (by omega) (by omega), fun U hU hWU => ⟨_, rfl, hvs, by rw [hU]; exact hH, by rw [hU]; exact (hW.kept hS.1 hS.2.1).warm hWU⟩⟩
  have estk : lv ++ rv = As.reverse ++ .ref b :: rv := by rw [hst2]; simp
  rcases hk with hk | hk
  · obtain ⟨c1, c2, c3, c4⟩ := u8 hk
    have hsel : (Cond.selects am_bN (am_mn m2) (am_mn m2)).before args s = true := hts _ c4
    have hts2 : ∀ w ∈ Cond.selects am_bN (am_mn m2) (am_mn m2) :: am_W, w.before args s = true := fun w hw => by
      rcases List.mem_cons.mp hw with rfl | hw
      · exact hsel
      · exact hts _ hw
    have gd : ∀ {w : Cond}, w ∈ am_W → w ∈ Cond.selects am_bN (am_mn m2) (am_mn m2) :: am_W ∧ ((w.onTables && w.keeps) = true ∨ ∃ ty, w = .arrayClass ty) := fun hw => ⟨List.mem_cons_of_mem _ hw, (am_good hw).2⟩
    have hfix2 : CallFix p mth cd (am_cd m) (am_ml m) s args (Cond.selects am_bN (am_mn m2) (am_mn m2) :: am_W) (am_mn m).cls := ⟨hx, hb, hml, hown, hts2⟩
    have cw := va_cwU (R := R) (own := (am_mn m).cls) (C := am_bN) (owner := am_aN) (index := idx) (x := am_mn m2) (y := am_mn m2) (am_na m2 - 1) hts2 (show GoodIn _ (va_wsU (am_mn m).cls idx am_bN am_aN (am_mn m2) (am_mn m2) (am_GI m2)) from fun w h => by
        rcases List.mem_append.mp h with h | h
        · simp only [List.mem_cons, List.not_mem_nil, or_false] at h
          rcases h with rfl | rfl | rfl | rfl | rfl
          · exact gd c2
          · rw [c1]; exact gd c3
          · exact ⟨List.mem_cons_self, Or.inl rfl⟩
          · exact gd k1
          · exact gd ok1
        · rcases List.mem_cons.mp h with rfl | h
          · exact gd hcode
          · exact gd h) rfl rfl rfl (by rw [← c1]) ⟨by decide, by decide, k4⟩ hRm
    exact am_after (rt := am_rtt m2) (va_runU hfix2 hM cw hp0 rfl hAs hL.1 estk hW8 hd hbud) (fun v h' z => am_ret_zero z) hL hrv hS hbud.1 hbud.2
  · obtain ⟨c1, c2, c3, c4, c5, b0, m0, r0, c6⟩ := u10 hk
    have cw := va_cwO (R := R) (own := (am_mn m).cls) (C := am_bN) (owner := am_aN) (index := idx) (x := ⟨am_aN, "length", "()I"⟩) (y := am_mn m2) (am_na m2 - 1) hts (show GoodIn _ (va_wsO (am_mn m).cls idx am_bN am_aN ⟨am_aN, "length", "()I"⟩ (am_mn m2) (am_GI m2)) from fun w h => by
        rcases List.mem_append.mp h with h | h
        · simp only [List.mem_cons, List.not_mem_nil, or_false] at h
          rcases h with rfl | rfl | rfl | rfl | rfl | rfl
          · exact am_good c2
          · exact am_good c3
          · exact am_good c4
          · rw [c1]; exact am_good c5
          · exact am_good k1
          · exact am_good ok1
        · exact am_GI_in hcode w h) rfl rfl rfl c6 ⟨by decide, by decide, by rw [c1] at k4; exact k4⟩ hRm
    exact am_after (rt := am_rtt m2) (va_runU hfix hM cw hp0 rfl hAs hL.1 estk hW8 hd hbud) (fun v h' z => am_ret_zero z) hL hrv hS hbud.1 hbud.2
theorem am_i_sup (C : am_Cx G l d m p R s mth args meth cd) {idx kind m2 : Nat} (hk : kind = 9) (hok : am_uok m pc kind idx m2) (hd : decode (am_cd m) pc = .ok (.invokespecial idx, 3)) (w : am_stp (am_Sim G l) (am_Gl G m p l e R s mth args below meth cd Q) d (am_hd m) K (am_inv kind m2 8 (am_cap m2) (am_cap m) (am_ml m2) (am_na m2) (am_rtt m2) pc ls st h c s0)) : am_Gl G m p l e R s mth args below meth cd Q (pc, ls, st, h, c, s0) := by
  have w1 := am_inv_inv w
  clear w
  obtain ⟨as, r, hp, hc8, hcat, hrc, hcap, w⟩ := w1
  have w1 := am_dn_inv w
  clear w
  obtain ⟨d', rfl, w⟩ := w1
  obtain ⟨l0, e1, e2, e3⟩ := am_pop_spec hp
  rw [List.append_nil] at e1
  subst e2
  obtain ⟨hm2, ok1, k1, k3, k4, hh2, hun, u8, u10, u9⟩ := hok
  have hCx := C
  obtain ⟨hx, hb, hml, hown, hts, hW, hR, hlk, htr, hin⟩ := C
  intro H locs arr sv hH hS hL hst hc hs0
  dsimp only at hH hL hst hc hs0 ⊢
  obtain ⟨lv, rv, rfl, hlv, hrv⟩ := am_RS_app hst
  have hvs : am_RS G as lv.reverse := by rw [e1]; exact am_RS_rev hlv
  have hlen := am_RS_len hlv
  have hcatr := am_RS_cat hrv
  have hbud : c + (am_cap m2).1 ≤ R.cells ∧ s0 + (am_cap m2).2 ≤ R.slots := by
    have := hR.2.2
    rcases hcap with hcap | hcap
    · rw [hcap]; exact ⟨hc, hs0⟩
    · omega
  have hRm : (am_rm d' m2).frames + 1 ≤ R.frames ∧ 8 + (am_ml m2 + 11) + (am_rm d' m2).locals ≤ R.locals := by
    have h1 := hR.1
    have h2 := hR.2.1
    have h3 := hm2.2.1
    refine ⟨?_, ?_⟩
    · show d' + 8 + 1 ≤ _
      omega
    · show 8 + (am_ml m2 + 11) + (40 * d' + 200) ≤ _
      omega
  have hW8 : 2 * (F0 mth pc arr (lv ++ rv)).monitorRoom + (rv.map fun v => v.category).sum ≤ 8 := by
    rw [hcatr]
    show 2 * 0 + am_cat r ≤ 8
    omega
  have hcode : Cond.code (am_mn m2) (am_cd m2) (am_ml m2) (am_re m2) ∈ am_W := by
    have := hm2.2.2.2
    rw [if_pos hh2] at this
    exact this
  have hM := am_met (d := d') (m := m2) (as := as) (h := h) w (fun k v h' => am_unc_no hun) hm2 hcat htr hh2
  have hfix : CallFix p mth cd (am_cd m) (am_ml m) s args am_W (am_mn m).cls := ⟨hx, hb, hml, hown, hts⟩
  obtain ⟨b, As, eV, hrec⟩ := am_recv (C := am_bN) hW hS hH hrc hvs (by omega) (Or.inr (Or.inr (Or.inr ⟨by omega, by omega, by omega, by omega, by omega, _, rfl, rfl⟩)))
  have hst2 : lv = As.reverse ++ [.ref b] := by rw [← List.reverse_reverse lv, eV]; simp
  have hAs : As.length = am_na m2 - 1 := by
    have : lv.length = As.length + 1 := by rw [hst2]; simp
    omega
  rw [eV] at hvs
  have hp0 : PreV s H am_bN b (am_Pc G as h) As := ⟨am_Pc_blind, hrec (by omega) (by omega), fun U hU hWU => ⟨_, rfl, hvs, by rw [hU]; exact hH, by rw [hU]; exact (hW.kept hS.1 hS.2.1).warm hWU⟩⟩
  have estk : lv ++ rv = As.reverse ++ .ref b :: rv := by rw [hst2]; simp
  obtain ⟨c1, c2, c3, c4, c5⟩ := u9 hk
  have cw := va_cwSU (R := R) (own := (am_mn m).cls) (index := idx) (y := am_mn m2) (am_na m2 - 1) hts (show GoodIn _ (va_wsSU (am_mn m).cls idx (am_mn m2) (am_GI m2)) from fun w h => by
      rcases List.mem_append.mp h with h | h
      · simp only [List.mem_cons, List.not_mem_nil, or_false] at h
        rcases h with rfl | rfl | rfl | rfl | rfl
        · exact am_good c3
        · rw [c1]; exact am_good c4
        · rw [c1]; exact am_good c5
        · exact am_good k1
        · exact am_good ok1
      · exact am_GI_in hcode w h) rfl rfl rfl ⟨c2, k4⟩ hRm
  have hat := (hW.1.1.1 7 _ rfl).2
  exact am_after (rt := am_rtt m2) (va_runSU hat hfix hM cw hp0 rfl hAs hL.1 estk hW8 hd hbud) (fun v h' z => am_ret_zero z) hL hrv hS hbud.1 hbud.2
end SIM
