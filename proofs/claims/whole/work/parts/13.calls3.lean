/-! ===== calls, a kind each ===== -/
section SIM
variable {G : am_En} {l : Launch} {d m : Nat} {p : Program} {e : Env} {R : Room} {s : State} {mth : MethodId} {args : Array Value} {below : List Frame} {meth : Method} {cd : Code} {Q : State → Prop} {K : AK} {hs : List (Nat × Nat × Nat × Nat)}
variable {pc : Nat} {ls st : List AV} {h : AH} {c s0 : Nat}
/-- what a place that calls m2 needs of the tables: kind 0 a method of an object, 1 of a nest mate's, 2 static, 3 a nest mate's static, 4 a constructor, 5 a nest mate's, 14 a method that may throw, 15 a static one with a table -/
def am_cok (m kind idx m2 r3 : Nat) : Prop := am_mok m2 ∧ Cond.initialized (am_mn m2).cls ∈ am_W ∧
  ((kind = 0 ∨ kind = 2 ∨ kind = 4 ∨ kind = 14 ∨ kind = 15) → Cond.methodLink (am_mn m).cls idx (am_mn m2) ∈ am_W) ∧ ((kind = 1 ∨ kind = 3 ∨ kind = 5) → ∃ host, Cond.methodLinkNest (am_mn m).cls idx (am_mn m2) host ∈ lw_tbl) ∧
  ((kind = 2 ∨ kind = 3 ∨ kind = 15) → Cond.static (am_mn m2) ∈ am_W ∧ r3 = 0 ∧ (parseMethodDescriptor (am_mn m2).desc).map (fun d => d.parameters.length) = some (am_na m2)) ∧
  ((kind = 0 ∨ kind = 1 ∨ kind = 4 ∨ kind = 5 ∨ kind = 14) → Cond.instanceMethod (am_mn m2) ∈ am_W ∧ r3 ≠ 0 ∧ 1 ≤ am_na m2 ∧ (parseMethodDescriptor (am_mn m2).desc).map (fun d => d.parameters.length) = some (am_na m2 - 1)) ∧
  ((kind = 0 ∨ kind = 1 ∨ kind = 14) → Cond.selects (am_mn m2).cls (am_mn m2) (am_mn m2) ∈ am_W ∧ r3 ≠ 61 ∧ ((r3 = 60 ∧ (am_mn m2).cls = "java/lang/String") ∨ r3 = 61 ∨ (r3 ≠ 60 ∧ r3 ≠ 61 ∧ 1 ≤ r3 ∧ r3 ≤ 9 ∧ ∃ q : vw_C, vwCl[r3 - 1]? = some q ∧ q.1 = (am_mn m2).cls))) ∧
  ((kind = 4 ∨ kind = 5) → (am_mn m2).name = "<init>" ∧ r3 = 61 ∧ am_re m2 = none) ∧
  (kind ≠ 15 → am_hh m2 = []) ∧ (kind = 15 → am_hh m2 ≠ []) ∧ (kind ≠ 14 → am_hd m = [])
theorem am_i_stat (C : am_Cx G l d m p R s mth args meth cd) {idx kind m2 r3 : Nat} (hk : kind = 2 ∨ kind = 3) (hok : am_cok m kind idx m2 r3) (hd : decode (am_cd m) pc = .ok (.invokestatic idx, 3)) (w : am_stp (am_Sim G l) (am_Gl G m p l e R s mth args below meth cd Q) d (am_hd m) K (am_inv kind m2 r3 (am_cap m2) (am_cap m) (am_ml m2) (am_na m2) (am_rtt m2) pc ls st h c s0)) : am_Gl G m p l e R s mth args below meth cd Q (pc, ls, st, h, c, s0) := by
  have w1 := am_inv_inv w
  clear w
  obtain ⟨as, r, hp, hc8, hcat, hrc, hcap, w⟩ := w1
  have w1 := am_dn_inv w
  clear w
  obtain ⟨d', rfl, w⟩ := w1
  obtain ⟨l0, e1, e2, e3⟩ := am_pop_spec hp
  rw [List.append_nil] at e1
  subst e2
  obtain ⟨hm2, ok1, ok2, ok3, ok4, ok5, ok6, ok7, ok8, ok9, ok10⟩ := hok
  have hCx := C
  obtain ⟨hx, hb, hml, hown, hts, hW, hR, hlk, htr, hin⟩ := C
  intro H locs arr sv hH hS hL hst hc hs0
  dsimp only at hH hL hst hc hs0 ⊢
  obtain ⟨lv, rv, rfl, hlv, hrv⟩ := am_RS_app hst
  have hvs : am_RS G as lv.reverse := by rw [e1]; exact am_RS_rev hlv
  have hlen := am_RS_len hlv
  have hcatr := am_RS_cat hrv
  have hbud : c + (am_cap m2).1 ≤ R.cells ∧ s0 + (am_cap m2).2 ≤ R.slots := by
    have := hR.2.2
    rcases hcap with hcap | hcap
    · rw [hcap]; exact ⟨hc, hs0⟩
    · omega
  have hRm : (am_rm d' m2).frames + 1 ≤ R.frames ∧ 8 + (am_ml m2 + 11) + (am_rm d' m2).locals ≤ R.locals := by
    have h1 := hR.1
    have h2 := hR.2.1
    have h3 := hm2.2.1
    refine ⟨?_, ?_⟩
    · show d' + 8 + 1 ≤ _
      omega
    · show 8 + (am_ml m2 + 11) + (40 * d' + 200) ≤ _
      omega
  have hW8 : 2 * (F0 mth pc arr (lv ++ rv)).monitorRoom + (rv.map fun v => v.category).sum ≤ 8 := by
    rw [hcatr]
    show 2 * 0 + am_cat r ≤ 8
    omega
  have hhd : am_hd m = [] := ok10 (by omega)
  have hh2 : am_hh m2 = [] := ok8 (by omega)
  have hcode : Cond.code (am_mn m2) (am_cd m2) (am_ml m2) (am_re m2) ∈ am_W := by
    have := hm2.2.2.2
    rw [if_pos hh2] at this
    exact this
  have hM := am_met (d := d') (m := m2) (as := as) (h := h) w (fun k v h' z => by rw [hhd] at z; exact z) hm2 hcat htr hh2
  have hfix : CallFix p mth cd (am_cd m) (am_ml m) s args am_W (am_mn m).cls := ⟨hx, hb, hml, hown, hts⟩
  obtain ⟨k1, k2, k3⟩ := ok4 (by omega)
  have hp0 : PreS s H (am_Pc G as h) lv.reverse := ⟨am_Pc_blind, fun U hU hWU => ⟨_, rfl, hvs, by rw [hU]; exact hH, by rw [hU]; exact (hW.kept hS.1 hS.2.1).warm hWU⟩⟩
  rcases hk with hk | hk
  · have cw := va_cwS (R := R) (own := (am_mn m).cls) (index := idx) (am_na m2) hts (show GoodIn am_W (va_wsS (am_mn m).cls idx (am_mn m2) (am_GI m2)) from fun w h => by
        rcases List.mem_append.mp h with h | h
        · simp only [List.mem_cons, List.not_mem_nil, or_false] at h
          rcases h with rfl | rfl | rfl
          · exact am_good (ok2 (by omega))
          · exact am_good k1
          · exact am_good ok1
        · exact am_GI_in hcode w h) rfl rfl rfl ⟨hm2.2.2.1.1, hm2.2.2.1.2, k3⟩ hRm
    exact am_after (rt := am_rtt m2) (va_runS hfix hM cw hp0 rfl (by simp; omega) hL.1 (by simp) hW8 hd hbud) (fun v h' z => am_ret_zero z) hL hrv hS hbud.1 hbud.2
  · obtain ⟨host, k4⟩ := ok3 (by omega)
    have cw := va_cnB (R := R) (rm := am_rm d' m2) (mc := (am_cap m2).1) (ms := (am_cap m2).2) (am_na m2) hts (am_GI_in hcode) rfl rfl rfl (hW.1.2.1 _ k4 rfl) (hts _ ok1) ⟨hm2.2.2.1.1, hm2.2.2.1.2, k3⟩ hRm
    exact am_after (rt := am_rtt m2) (va_runSN hfix hM ⟨cw, hts _ k1, trivial⟩ hp0 rfl (by simp; omega) hL.1 (by simp) hW8 hd hbud) (fun v h' z => am_ret_zero z) hL hrv hS hbud.1 hbud.2
theorem am_i_virt (C : am_Cx G l d m p R s mth args meth cd) {idx kind m2 r3 : Nat} (hk : kind = 0 ∨ kind = 1) (hok : am_cok m kind idx m2 r3) (hd : decode (am_cd m) pc = .ok (.invokevirtual idx, 3)) (w : am_stp (am_Sim G l) (am_Gl G m p l e R s mth args below meth cd Q) d (am_hd m) K (am_inv kind m2 r3 (am_cap m2) (am_cap m) (am_ml m2) (am_na m2) (am_rtt m2) pc ls st h c s0)) : am_Gl G m p l e R s mth args below meth cd Q (pc, ls, st, h, c, s0) := by
  have w1 := am_inv_inv w
  clear w
  obtain ⟨as, r, hp, hc8, hcat, hrc, hcap, w⟩ := w1
  have w1 := am_dn_inv w
  clear w
  obtain ⟨d', rfl, w⟩ := w1
  obtain ⟨l0, e1, e2, e3⟩ := am_pop_spec hp
  rw [List.append_nil] at e1
  subst e2
  obtain ⟨hm2, ok1, ok2, ok3, ok4, ok5, ok6, ok7, ok8, ok9, ok10⟩ := hok
  have hCx := C
  obtain ⟨hx, hb, hml, hown, hts, hW, hR, hlk, htr, hin⟩ := C
  intro H locs arr sv hH hS hL hst hc hs0
  dsimp only at hH hL hst hc hs0 ⊢
  obtain ⟨lv, rv, rfl, hlv, hrv⟩ := am_RS_app hst
  have hvs : am_RS G as lv.reverse := by rw [e1]; exact am_RS_rev hlv
  have hlen := am_RS_len hlv
  have hcatr := am_RS_cat hrv
  have hbud : c + (am_cap m2).1 ≤ R.cells ∧ s0 + (am_cap m2).2 ≤ R.slots := by
    have := hR.2.2
    rcases hcap with hcap | hcap
    · rw [hcap]; exact ⟨hc, hs0⟩
    · omega
  have hRm : (am_rm d' m2).frames + 1 ≤ R.frames ∧ 8 + (am_ml m2 + 11) + (am_rm d' m2).locals ≤ R.locals := by
    have h1 := hR.1
    have h2 := hR.2.1
    have h3 := hm2.2.1
    refine ⟨?_, ?_⟩
    · show d' + 8 + 1 ≤ _
      omega
    · show 8 + (am_ml m2 + 11) + (40 * d' + 200) ≤ _
      omega
  have hW8 : 2 * (F0 mth pc arr (lv ++ rv)).monitorRoom + (rv.map fun v => v.category).sum ≤ 8 := by
    rw [hcatr]
    show 2 * 0 + am_cat r ≤ 8
    omega
  have hhd : am_hd m = [] := ok10 (by omega)
  have hh2 : am_hh m2 = [] := ok8 (by omega)
  have hcode : Cond.code (am_mn m2) (am_cd m2) (am_ml m2) (am_re m2) ∈ am_W := by
    have := hm2.2.2.2
    rw [if_pos hh2] at this
    exact this
  have hM := am_met (d := d') (m := m2) (as := as) (h := h) w (fun k v h' z => by rw [hhd] at z; exact z) hm2 hcat htr hh2
  have hfix : CallFix p mth cd (am_cd m) (am_ml m) s args am_W (am_mn m).cls := ⟨hx, hb, hml, hown, hts⟩
  obtain ⟨k1, k2, k3, k4⟩ := ok5 (by omega)
  obtain ⟨k5, k6, k7⟩ := ok6 (by omega)
  obtain ⟨b, As, eV, hrec⟩ := am_recv hW hS hH hrc hvs k2 k7
  have hst2 : lv = As.reverse ++ [.ref b] := by rw [← List.reverse_reverse lv, eV]; simp
  have hAs : As.length = am_na m2 - 1 := by
    have : lv.length = As.length + 1 := by rw [hst2]; simp
    omega
  rw [eV] at hvs
  have hp0 : PreV s H (am_mn m2).cls b (am_Pc G as h) As := ⟨am_Pc_blind, hrec k6, fun U hU hWU => ⟨_, rfl, hvs, by rw [hU]; exact hH, by rw [hU]; exact (hW.kept hS.1 hS.2.1).warm hWU⟩⟩
  have estk : lv ++ rv = As.reverse ++ .ref b :: rv := by rw [hst2]; simp
  rcases hk with hk | hk
  · have cw := cwV (R := R) (own := (am_mn m).cls) (C := (am_mn m2).cls) (index := idx) (am_na m2 - 1) hts (show GoodIn am_W (wsV (am_mn m).cls idx (am_mn m2).cls (am_mn m2) (am_GI m2)) from fun w h => by
        rcases List.mem_append.mp h with h | h
        · simp only [List.mem_cons, List.not_mem_nil, or_false] at h
          rcases h with rfl | rfl | rfl | rfl
          · exact am_good (ok2 (by omega))
          · exact am_good k1
          · exact am_good k5
          · exact am_good ok1
        · exact am_GI_in hcode w h) rfl rfl rfl ⟨rfl, hm2.2.2.1.1, hm2.2.2.1.2, k4⟩ hRm
    exact am_after (rt := am_rtt m2) (va_runV hfix hM cw hp0 rfl hAs hL.1 estk hW8 hd hbud) (fun v h' z => am_ret_zero z) hL hrv hS hbud.1 hbud.2
  · obtain ⟨host, k8⟩ := ok3 (by omega)
    have cw := va_cnB (R := R) (rm := am_rm d' m2) (mc := (am_cap m2).1) (ms := (am_cap m2).2) (am_na m2 - 1) hts (am_GI_in hcode) rfl rfl rfl (hW.1.2.1 _ k8 rfl) (hts _ ok1) ⟨hm2.2.2.1.1, hm2.2.2.1.2, k4⟩ hRm
    exact am_after (rt := am_rtt m2) (va_runVN hfix hM ⟨cw, hts _ k1, hts _ k5⟩ hp0 rfl hAs hL.1 estk hW8 hd hbud) (fun v h' z => am_ret_zero z) hL hrv hS hbud.1 hbud.2
theorem am_i_spec (C : am_Cx G l d m p R s mth args meth cd) {idx kind m2 r3 : Nat} (hk : kind = 4 ∨ kind = 5) (hok : am_cok m kind idx m2 r3) (hd : decode (am_cd m) pc = .ok (.invokespecial idx, 3)) (w : am_stp (am_Sim G l) (am_Gl G m p l e R s mth args below meth cd Q) d (am_hd m) K (am_inv kind m2 r3 (am_cap m2) (am_cap m) (am_ml m2) (am_na m2) (am_rtt m2) pc ls st h c s0)) : am_Gl G m p l e R s mth args below meth cd Q (pc, ls, st, h, c, s0) := by
  have w1 := am_inv_inv w
  clear w
  obtain ⟨as, r, hp, hc8, hcat, hrc, hcap, w⟩ := w1
  have w1 := am_dn_inv w
  clear w
  obtain ⟨d', rfl, w⟩ := w1
  obtain ⟨l0, e1, e2, e3⟩ := am_pop_spec hp
  rw [List.append_nil] at e1
  subst e2
  obtain ⟨hm2, ok1, ok2, ok3, ok4, ok5, ok6, ok7, ok8, ok9, ok10⟩ := hok
  have hCx := C
  obtain ⟨hx, hb, hml, hown, hts, hW, hR, hlk, htr, hin⟩ := C
  intro H locs arr sv hH hS hL hst hc hs0
  dsimp only at hH hL hst hc hs0 ⊢
  obtain ⟨lv, rv, rfl, hlv, hrv⟩ := am_RS_app hst
  have hvs : am_RS G as lv.reverse := by rw [e1]; exact am_RS_rev hlv
  have hlen := am_RS_len hlv
  have hcatr := am_RS_cat hrv
  have hbud : c + (am_cap m2).1 ≤ R.cells ∧ s0 + (am_cap m2).2 ≤ R.slots := by
    have := hR.2.2
    rcases hcap with hcap | hcap
    · rw [hcap]; exact ⟨hc, hs0⟩
    · omega
  have hRm : (am_rm d' m2).frames + 1 ≤ R.frames ∧ 8 + (am_ml m2 + 11) + (am_rm d' m2).locals ≤ R.locals := by
    have h1 := hR.1
    have h2 := hR.2.1
    have h3 := hm2.2.1
    refine ⟨?_, ?_⟩
    · show d' + 8 + 1 ≤ _
      omega
    · show 8 + (am_ml m2 + 11) + (40 * d' + 200) ≤ _
      omega
  have hW8 : 2 * (F0 mth pc arr (lv ++ rv)).monitorRoom + (rv.map fun v => v.category).sum ≤ 8 := by
    rw [hcatr]
    show 2 * 0 + am_cat r ≤ 8
    omega
  have hhd : am_hd m = [] := ok10 (by omega)
  have hh2 : am_hh m2 = [] := ok8 (by omega)
  have hcode : Cond.code (am_mn m2) (am_cd m2) (am_ml m2) (am_re m2) ∈ am_W := by
    have := hm2.2.2.2
    rw [if_pos hh2] at this
    exact this
  have hM := am_met (d := d') (m := m2) (as := as) (h := h) w (fun k v h' z => by rw [hhd] at z; exact z) hm2 hcat htr hh2
  have hfix : CallFix p mth cd (am_cd m) (am_ml m) s args am_W (am_mn m).cls := ⟨hx, hb, hml, hown, hts⟩
  obtain ⟨k1, k2, k3, k4⟩ := ok5 (by omega)
  obtain ⟨k5, k6, k7⟩ := ok7 (by omega)
  obtain ⟨b, As, eV, -⟩ := am_recv (C := "") hW hS hH hrc hvs k2 (Or.inr (Or.inl k6))
  have hst2 : lv = As.reverse ++ [.ref b] := by rw [← List.reverse_reverse lv, eV]; simp
  have hAs : As.length = am_na m2 - 1 := by
    have : lv.length = As.length + 1 := by rw [hst2]; simp
    omega
  rw [eV] at hvs
  have hp0 : PreS s H (am_Pc G as h) (.ref b :: As) := ⟨am_Pc_blind, fun U hU hWU => ⟨_, rfl, hvs, by rw [hU]; exact hH, by rw [hU]; exact (hW.kept hS.1 hS.2.1).warm hWU⟩⟩
  have estk : lv ++ rv = As.reverse ++ .ref b :: rv := by rw [hst2]; simp
  rw [k7] at hM hcode
  have hGI : GoodIn am_W (Cond.code (am_mn m2) (am_cd m2) (am_ml m2) none :: am_W) := by
    intro w h
    rcases List.mem_cons.mp h with rfl | h
    · exact am_good hcode
    · exact am_good h
  rcases hk with hk | hk
  · have cw := cwI (R := R) (own := (am_mn m).cls) (index := idx) (am_na m2 - 1) hts hGI rfl rfl rfl (hts _ ok1) (hts _ (ok2 (by omega))) (hts _ k1) k5 ⟨hm2.2.2.1.1, hm2.2.2.1.2, k4⟩ hRm
    exact am_after (rt := am_rtt m2) (va_runI hfix hM cw hp0 rfl hAs hL.1 estk hW8 hd hbud) (fun v h' z => am_ret_zero z) hL hrv hS hbud.1 hbud.2
  · obtain ⟨host, k8⟩ := ok3 (by omega)
    have cw := va_cnB (R := R) (rm := am_rm d' m2) (mc := (am_cap m2).1) (ms := (am_cap m2).2) (am_na m2 - 1) hts hGI rfl rfl rfl (hW.1.2.1 _ k8 rfl) (hts _ ok1) ⟨hm2.2.2.1.1, hm2.2.2.1.2, k4⟩ hRm
    exact am_after (rt := am_rtt m2) (va_runIN hfix hM ⟨cw, k5, hts _ k1⟩ hp0 rfl hAs hL.1 estk hW8 hd hbud) (fun v h' z => am_ret_zero z) hL hrv hS hbud.1 hbud.2
end SIM
