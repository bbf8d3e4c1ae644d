/-! ===== the reference's grammar: tests ===== -/
section
variable {kd : Nat → Int} {su : GF} {lt : Option (GF × GF)} {i : Nat}
theorem gSng_91 (z : kd i = 91) : gSng kd su lt i = gBra kd lt i := by
  unfold gSng
  rw [if_pos z]
theorem gSng_307 (z : kd i = 307) : gSng kd su lt i = bnd (tk kd 307 0 i) (lk kd) := by
  unfold gSng
  rw [if_neg (by omega), if_pos z]
theorem gSng_315 (z : kd i = 315) : gSng kd su lt i = bnd (tk kd 315 0 i) (nm kd 12 8) := by
  unfold gSng
  rw [if_neg (by omega), if_neg (by omega), if_pos z]
theorem gSng_317 (z : kd i = 317) : gSng kd su lt i = gNot kd lt i := by
  unfold gSng
  rw [if_neg (by omega), if_neg (by omega), if_neg (by omega), if_pos z]
theorem gSng_no (z1 : kd i ≠ 91) (z2 : kd i ≠ 307) (z3 : kd i ≠ 315) (z4 : kd i ≠ 317) : gSng kd su lt i = gCmp kd su i := by
  unfold gSng
  rw [if_neg z1, if_neg z2, if_neg z3, if_neg z4]
end
section
variable {d D n : Nat} {h0 h : AH} {q dp : Int} {kd va : Nat → Int} {N i : Nat} {C O R : List Int} {w : Nat} {K : AK}
theorem c179_9 {f : GF} {b : Nat} (hb : 1 ≤ b) (ci : CM 183 b dp f kd va) : ∀ n : Nat, ∀ {i : Nat} {h : AH} {C O R : List Int} (j : Nat), b ≤ d → j + n = 400 → j ≤ i → XM h0 q kd va N h i dp C O R → WW C O i w → PM h0 q kd va N dp C O R w K (gLp kd f 318 23 318 23 n i) → WP (d + 1) 179 (9, [(2, 53)], [], h, 0, 0) K := by
  intro n
  induction n with
  | zero =>
    intro i h C O R j hd hj ji x ww k
    have N4 := x.g.N4
    have iN := x.iN
    have en := x.g.en
    have e : i = N := by omega
    exact v179_9 ⟨x.t, c168 318 (kvk (by decide)) (by decide) rfl (by omega) x (fun z => absurd z (by rw [e]; omega)) (fun _ => okx ⟨fun _ => ⟨Or.inr rfl, PM.ok x ww k⟩, fun y => absurd rfl y⟩)⟩
  | succ n ih =>
    intro i h C O R j hd hj ji x ww k
    have N4 := x.g.N4
    have iN := x.iN
    have k' : PM h0 q kd va N dp C O R w K (if kd i = 318 then bnd (tk kd 318 0 i) fun i => bnd (f i) fun i => bnd (em (23, 0, 0) i) (gLp kd f 318 23 318 23 n) else if kd i = 318 then bnd (tk kd 318 0 i) fun i => bnd (f i) fun i => bnd (em (23, 0, 0) i) (gLp kd f 318 23 318 23 n) else .inr (i, [], [])) := k
    refine v179_9 ⟨x.t, c168 318 (kvk (by decide)) (by decide) rfl (by omega) x (fun za h3 x3 => okx ⟨fun y => absurd y (by decide), fun _ => ⟨x3.t, ?_⟩⟩) (fun za => okx ⟨fun _ => ⟨Or.inr rfl, ?_⟩, fun y => absurd rfl y⟩)⟩
    · rw [if_pos za] at k'
      refine ci.go (by omega) x3 ww.up (PM.ch (k'.ty za) fun _ _ _ h5 x5 w5 k5 => ⟨x5.t, c171 (by have := w5.1; have := x5.iN; omega) x5 fun h6 x6 => okx ?_⟩)
      have gt := x.gt x5
      exact ih (j + 1) hd (by omega) (by omega) x6 w5.put (PM.es (o := (23, 0, 0)) ⟨by decide, by decide, by decide⟩ k5)
    · rw [if_neg za, if_neg za] at k'
      exact PM.ok x ww k'
theorem c179 {f : GF} {b : Nat} (hb : 1 ≤ b) (ci : CM 183 b dp f kd va) : CM 179 (b + 1) dp (gList kd f 318 23 318 23) kd va := by
  intro D h0 h q N i C O R w K hD x ww k
  obtain ⟨d, rfl⟩ : ∃ d, D = d + 1 := ⟨D - 1, by omega⟩
  exact v179 ⟨x.t, ci.go (by omega) x ww (PM.ch k fun _ _ _ h2 x2 w2 k2 => c179_9 hb ci 400 0 (by omega) rfl (Nat.zero_le _) x2 w2 k2)⟩
theorem c178_9 {f : GF} {b : Nat} (hb : 1 ≤ b) (ci : CM 179 b dp f kd va) : ∀ n : Nat, ∀ {i : Nat} {h : AH} {C O R : List Int} (j : Nat), b ≤ d → j + n = 400 → j ≤ i → XM h0 q kd va N h i dp C O R → WW C O i w → PM h0 q kd va N dp C O R w K (gLp kd f 319 24 319 24 n i) → WP (d + 1) 178 (9, [(2, 53)], [], h, 0, 0) K := by
  intro n
  induction n with
  | zero =>
    intro i h C O R j hd hj ji x ww k
    have N4 := x.g.N4
    have iN := x.iN
    have en := x.g.en
    have e : i = N := by omega
    exact v178_9 ⟨x.t, c168 319 (kvk (by decide)) (by decide) rfl (by omega) x (fun z => absurd z (by rw [e]; omega)) (fun _ => okx ⟨fun _ => ⟨Or.inr rfl, PM.ok x ww k⟩, fun y => absurd rfl y⟩)⟩
  | succ n ih =>
    intro i h C O R j hd hj ji x ww k
    have N4 := x.g.N4
    have iN := x.iN
    have k' : PM h0 q kd va N dp C O R w K (if kd i = 319 then bnd (tk kd 319 0 i) fun i => bnd (f i) fun i => bnd (em (24, 0, 0) i) (gLp kd f 319 24 319 24 n) else if kd i = 319 then bnd (tk kd 319 0 i) fun i => bnd (f i) fun i => bnd (em (24, 0, 0) i) (gLp kd f 319 24 319 24 n) else .inr (i, [], [])) := k
    refine v178_9 ⟨x.t, c168 319 (kvk (by decide)) (by decide) rfl (by omega) x (fun za h3 x3 => okx ⟨fun y => absurd y (by decide), fun _ => ⟨x3.t, ?_⟩⟩) (fun za => okx ⟨fun _ => ⟨Or.inr rfl, ?_⟩, fun y => absurd rfl y⟩)⟩
    · rw [if_pos za] at k'
      refine ci.go (by omega) x3 ww.up (PM.ch (k'.ty za) fun _ _ _ h5 x5 w5 k5 => ⟨x5.t, c171 (by have := w5.1; have := x5.iN; omega) x5 fun h6 x6 => okx ?_⟩)
      have gt := x.gt x5
      exact ih (j + 1) hd (by omega) (by omega) x6 w5.put (PM.es (o := (24, 0, 0)) ⟨by decide, by decide, by decide⟩ k5)
    · rw [if_neg za, if_neg za] at k'
      exact PM.ok x ww k'
theorem c178 {f : GF} {b : Nat} (hb : 1 ≤ b) (ci : CM 179 b dp f kd va) : CM 178 (b + 1) dp (gList kd f 319 24 319 24) kd va := by
  intro D h0 h q N i C O R w K hD x ww k
  obtain ⟨d, rfl⟩ : ∃ d, D = d + 1 := ⟨D - 1, by omega⟩
  exact v178 ⟨x.t, ci.go (by omega) x ww (PM.ch k fun _ _ _ h2 x2 w2 k2 => c178_9 hb ci 400 0 (by omega) rfl (Nat.zero_le _) x2 w2 k2)⟩
/-- what stands one depth deeper -/
def LN (kd va : Nat → Int) (b : Nat) (dp : Int) : Option (GF × GF) → Prop
  | none => dp = 8
  | some v => (0 ≤ dp ∧ dp < 8) ∧ CM 183 b (dp + 1) v.1 kd va ∧ CM 178 b (dp + 1) v.2 kd va
theorem LN.bd {b : Nat} : ∀ {lv : Option (GF × GF)}, LN kd va b dp lv → 0 ≤ dp ∧ dp ≤ 8
  | none, x => by
    have x' : dp = 8 := x
    omega
  | some v, x => by
    have x' := x.1
    omega
theorem c183 {b : Nat} {su : GF} (hb : 4 ≤ b) {lt : Option (GF × GF)} (hl : LN kd va b dp lt) (hs : CM 184 b dp su kd va) : CM 183 (b + 1) dp (gSng kd su lt) kd va := by
  intro D h0 h q N i C O R w K hD x ww k
  obtain ⟨d, rfl⟩ : ∃ d, D = d + 1 := ⟨D - 1, by omega⟩
  have bd := hl.bd
  have N4 := x.g.N4
  have iN := x.iN
  have w1 := ww.1
  have w2 := ww.2
  refine v183 ⟨x.t, ?_⟩
  by_cases z1 : kd i = 317
  · rw [gSng_317 z1] at k
    have hi := x.lt (by decide) z1
    refine c166 317 (kvk (by decide)) rfl x (isy z1 ⟨x.t, ?_⟩)
    cases lt with
    | none =>
      have e : dp = 8 := hl
      exact c180 hi bd x (fun _ => okx ⟨fun _ => ⟨Or.inl rfl, k x.iN h x.f x.po⟩, fun y => absurd rfl y⟩) (fun y => absurd e y)
    | some v =>
      have k1 : PM h0 q kd va N dp C O R w K (bnd (tk kd 317 0 i) fun i => bnd (v.1 i) (em (10, 0, 0))) := k
      obtain ⟨hl1, hl2, hl3⟩ := hl
      refine c180 hi bd x (fun y => absurd y (by omega)) (fun _ h2 x2 => okx ⟨fun y => absurd y (by decide), fun _ => ⟨x2.t, ?_⟩⟩)
      refine hl2.go (by omega) x2 ww.up (PM.ch (k1.ty z1) fun j s t h3 x3 w3 k3 => ⟨x3.t, x3.t, ?_⟩)
      rw [x3.dep, w32_id (x := dp + 1 - 1) (by omega) (by omega), show dp + 1 - 1 = dp by omega]
      exact ⟨x3.t, c171 (by have := w3.1; have := x3.iN; omega) (x3.dw dp) fun h6 x6 => okx ⟨Or.inr rfl, PM.eo (o := (10, 0, 0)) ⟨by decide, by decide, by decide⟩ k3 h6 x6 w3.put⟩⟩
  refine c166 317 (kvk (by decide)) rfl x (isn z1 ⟨x.t, ?_⟩)
  by_cases z2 : kd i = 91
  · rw [gSng_91 z2] at k
    have hi := x.lt (by decide) z2
    refine c167 (by decide) x (isy z2 ⟨x.t, ?_⟩)
    cases lt with
    | none =>
      have e : dp = 8 := hl
      exact c180 hi bd x (fun _ => okx ⟨fun _ => ⟨Or.inl rfl, k x.iN h x.f x.po⟩, fun y => absurd rfl y⟩) (fun y => absurd e y)
    | some v =>
      have k1 : PM h0 q kd va N dp C O R w K (bnd (tk kd 91 0 i) fun i => bnd (v.2 i) (tk kd 93 0)) := k
      obtain ⟨hl1, hl2, hl3⟩ := hl
      refine c180 hi bd x (fun y => absurd y (by omega)) (fun _ h2 x2 => okx ⟨fun y => absurd y (by decide), fun _ => ⟨x2.t, ?_⟩⟩)
      refine hl3.go (by omega) x2 ww.up (PM.ch (k1.ty z2) fun j s t h3 x3 w3 k3 => ⟨x3.t, x3.t, ?_⟩)
      rw [x3.dep, w32_id (x := dp + 1 - 1) (by omega) (by omega), show dp + 1 - 1 = dp by omega]
      exact ⟨x3.t, c169 (by decide) (by omega) (x3.dw dp) (fun z7 h7 x7 => okx ⟨Or.inr rfl, PM.ok x7 (w3.up.le (by omega)) (k3.fy z7)⟩) (fun z7 => okx ⟨Or.inl rfl, k3.fn z7 x3.iN _ (x3.dw dp).f (x3.dw dp).po⟩)⟩
  refine c167 (by decide) x (isn z2 ⟨x.t, ?_⟩)
  by_cases z3 : kd i = 315
  · rw [gSng_315 z3] at k
    exact c166 315 (kvk (by decide)) rfl x (isy z3 ⟨x.t, c182 12 8 rfl (by decide) z3 (by decide) rfl (by omega) x ww (k.bv (Nat.le_refl _))⟩)
  refine c166 315 (kvk (by decide)) rfl x (isn z3 ⟨x.t, ?_⟩)
  by_cases z4 : kd i = 307
  · rw [gSng_307 z4] at k
    have hi := x.lt (by decide) z4
    have k2 : PM h0 q kd va N dp C O (R ++ [0]) w K (if kd (i + 1) = 256 then (if kd (i + 1 + 1) = 256 then .inr (i + 1 + 2, [(11, ((i + 1 : Nat) : Int), ((i + 1 + 1 : Nat) : Int))], [13, 12]) else .inl (i + 1 + 1)) else .inl (i + 1)) := k.ty z4
    refine c166 307 (kvk (by decide)) rfl x (isy z4 ⟨x.t, c182b 13 rfl (by omega) hi (by omega) (by omega) x (fun za h2 x2 => okx ⟨fun y => absurd y (by decide), fun _ => ⟨x2.t, ?_⟩⟩) (fun za h2 f2 e2 => okx ⟨fun _ => ⟨Or.inl rfl, ?_⟩, fun y => absurd rfl y⟩)⟩)
    · rw [if_pos za] at k2
      have i2 := x2.iN
      have lc : (C ++ [rk (kd i)] ++ [((i + 1 : Nat) : Int)]).length = C.length + 2 := by
        rw [List.length_append, List.length_append]
        rfl
      have lo : (O ++ [(C.length : Int) + 1]).length = O.length + 1 := by
        rw [List.length_append]
        rfl
      refine c181 12 rfl (by omega) (by rw [lc]; omega) (by rw [lo]; omega) x2 (fun zb h3 x3 => okx ⟨fun y => absurd y (by decide), fun _ => ⟨Or.inr rfl, ?_⟩⟩) (fun zb h3 f3 e3 => okx ⟨fun _ => ⟨Or.inl rfl, ?_⟩, fun y => absurd rfl y⟩)
      · rw [if_pos zb] at k2
        refine k2 h3 ?_ ?_
        · show XM h0 q kd va N h3 (i + 1 + 2) dp (C ++ [7, ((i + 1 : Nat) : Int), ((i + 1 + 1 : Nat) : Int)]) (O ++ [(C.length : Int) + 1, (C.length : Int) + 2]) (R ++ [0] ++ [13, 12])
          rw [lc, z4] at x3
          rw [List.append_assoc (C ++ [rk 307]), List.append_assoc C, List.append_assoc O, List.append_assoc (R ++ [0])] at x3
          exact x3
        · show WW (C ++ [7, ((i + 1 : Nat) : Int), ((i + 1 + 1 : Nat) : Int)]) (O ++ [(C.length : Int) + 1, (C.length : Int) + 2]) (i + 1 + 2) w
          refine ⟨?_, ?_⟩
          · rw [List.length_append]
            show C.length + 3 + 2 * w ≤ 2 * (i + 1 + 2)
            omega
          · rw [List.length_append]
            show O.length + 2 + w ≤ i + 1 + 2
            omega
      · rw [if_neg zb] at k2
        exact k2 x2.iN h3 f3 e3
    · rw [if_neg za] at k2
      exact k2 (by omega) h2 f2 e2
  refine c166 307 (kvk (by decide)) rfl x (isn z4 ⟨x.t, ?_⟩)
  rw [gSng_no z2 z4 z3 z1] at k
  refine hs.go (by omega) x ww (PM.ch k fun i2 s t h2 x2 w2 k2 => ?_)
  have k3 : PM h0 q kd va N dp (C ++ mcs va s) (O ++ mos va (C.length : Int) s) (R ++ t) w K (if gCc (kd i2) = 0 then .inl i2 else bnd (tk kd (kd i2) 0 i2) fun j => bnd (su j) (em (gCc (kd i2), 0, 0))) := k2
  have N4 := x2.g.N4
  have i2N := x2.iN
  have fin : ∀ cc : Int, gCc (kd i2) = cc → cc ≠ 0 → plain (cc, 0, 0) → am_call d 184 [(2, 53)] (am_w h2 53 10 (w32 (am_m h2 53 10 + 1))) (fun x31 v32 h33 => am_okx x31 (((v32 = 0) → ((0 : Int) = 0 ∨ (0 : Int) = 1) ∧ K 0 0 h33) ∧ (¬ (v32 = 0) → (am_t h33 53 = 9) ∧ am_call d 171 [(2, 53), (0, mco cc)] h33 (fun x34 _ h36 => am_okx x34 (((1 : Int) = 0 ∨ (1 : Int) = 1) ∧ K 0 1 h36))))) := by
    intro cc e1 e2 pl
    rw [e1, if_neg e2] at k3
    have nk : kd i2 ≠ 260 ∧ kd i2 ≠ 261 := gCc_rg (by rw [e1]; exact e2)
    rw [x2.po, w32_nat (by omega)]
    exact hs.go (by omega) (x2.nx (x2.nn nk)) w2.up (PM.ch (k3.ty rfl) fun j s t h5 x5 w5 k5 => ⟨x5.t, c171 (by have := w5.1; have := x5.iN; omega) x5 fun h6 x6 => okx ⟨Or.inr rfl, PM.eo (o := (cc, 0, 0)) pl k5 h6 x6 w5.put⟩⟩)
  refine ⟨x2.t, ?_⟩
  by_cases y60 : kd i2 = 60
  · exact c167 (by decide) x2 (isy y60 ⟨fun y => absurd y (by decide), fun _ => ⟨x2.t, x2.t, x2.t, fin 18 (by rw [y60]; rfl) (by decide) ⟨by decide, by decide, by decide⟩⟩⟩)
  refine c167 (by decide) x2 (isn y60 ⟨x2.t, ?_⟩)
  by_cases y62 : kd i2 = 62
  · exact c167 (by decide) x2 (isy y62 ⟨fun y => absurd y (by decide), fun _ => ⟨x2.t, x2.t, x2.t, fin 19 (by rw [y62]; rfl) (by decide) ⟨by decide, by decide, by decide⟩⟩⟩)
  refine c167 (by decide) x2 (isn y62 ⟨x2.t, ?_⟩)
  by_cases y61 : kd i2 = 61
  · exact c167 (by decide) x2 (isy y61 ⟨fun y => absurd y (by decide), fun _ => ⟨x2.t, x2.t, x2.t, fin 20 (by rw [y61]; rfl) (by decide) ⟨by decide, by decide, by decide⟩⟩⟩)
  refine c167 (by decide) x2 (isn y61 ⟨x2.t, ?_⟩)
  by_cases y258 : kd i2 = 258
  · exact c166 258 (Or.inr (Or.inl (by decide))) rfl x2 (isy y258 ⟨fun y => absurd y (by decide), fun _ => ⟨x2.t, x2.t, x2.t, fin 21 (by rw [y258]; rfl) (by decide) ⟨by decide, by decide, by decide⟩⟩⟩)
  refine c166 258 (Or.inr (Or.inl (by decide))) rfl x2 (isn y258 ⟨x2.t, ?_⟩)
  by_cases y259 : kd i2 = 259
  · exact c166 259 (Or.inr (Or.inl (by decide))) rfl x2 (isy y259 ⟨fun y => absurd y (by decide), fun _ => ⟨x2.t, x2.t, x2.t, fin 22 (by rw [y259]; rfl) (by decide) ⟨by decide, by decide, by decide⟩⟩⟩)
  refine c166 259 (Or.inr (Or.inl (by decide))) rfl x2 (isn y259 ⟨fun _ => ⟨Or.inl rfl, ?_⟩, fun y => absurd rfl y⟩)
  rw [if_pos (show gCc (kd i2) = 0 by unfold gCc; rw [if_neg y60, if_neg y61, if_neg y62, if_neg y258, if_neg y259])] at k3
  exact k3 i2N h2 x2.f x2.po
theorem m_lt : ∀ n : Nat, n ≤ 8 → LN kd va (5 * n + 7) (8 - (n : Int)) (gLt kd n)
  | 0, _ => by
    show (8 : Int) - ((0 : Nat) : Int) = 8
    omega
  | n + 1, hn => by
    have ih := m_lt n (by omega)
    have c1 := c183 (su := gSum kd (gVal kd (gLv kd n))) (by omega) ih (m_su (by omega))
    have c2 := c178 (by omega) (c179 (by omega) c1)
    have e : 8 - ((n + 1 : Nat) : Int) + 1 = 8 - (n : Int) := by omega
    refine ⟨by omega, ?_, ?_⟩
    · rw [e]
      intro D h0 h q N i C O R w K hD
      exact c1 D h0 h q N i C O R w K (by omega)
    · rw [e]
      intro D h0 h q N i C O R w K hD
      exact c2 D h0 h q N i C O R w K (by omega)
/-- a test -/
theorem m_ts (hD : 50 ≤ D) (x : XM h0 q kd va N h i 0 C O R) (ww : WW C O i w) (k : PM h0 q kd va N 0 C O R w K (gT kd 8 i)) : am_call D 178 [(2, 53)] h K :=
  (c178 (by omega) (c179 (by omega) (c183 (by omega) (m_lt 8 (Nat.le_refl _)) (m_su (Nat.le_refl _))))).go (f := gTst kd (gSng kd (gS kd 8) (gLt kd 8))) (dp := 8 - ((8 : Nat) : Int)) (by omega) x ww k
end
