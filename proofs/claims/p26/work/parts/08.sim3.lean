/-! ===== instructions that look at the heap ===== -/
theorem am_CO_obj {G : am_En} {h : AH} {a : Int} {H : Heap} {t : Nat} (ht : am_t h a = t) (h1 : 1 ≤ t) (h9 : t ≤ 9) : am_CO G h a H ↔ ∃ (q : vw_C) (V : Nat → Value), vwCl[t - 1]? = some q ∧ t_OB (ea G a) ((eD G).1 (t - 1)) q.2.2 ((eD G).2 (t - 1)) H V ∧ ∀ k : Nat, k < q.2.2 → am_RV G ((am_ft t).getD k 0, am_m h a (k : Int)) (V k) := by
  unfold am_CO
  rw [ht]
  split
  all_goals first | omega | exact Iff.rfl
theorem am_CO_i {G : am_En} {h : AH} {a : Int} {H : Heap} (ht : am_t h a = 20) : am_CO G h a H ↔ am_CI G (eI G) (-2147483648) 2147483647 h a H := by unfold am_CO; rw [ht]; exact Iff.rfl
theorem am_CO_y {G : am_En} {h : AH} {a : Int} {H : Heap} (ht : am_t h a = 21) : am_CO G h a H ↔ am_CI G (eY G) (-128) 127 h a H := by unfold am_CO; rw [ht]; exact Iff.rfl
theorem am_CO_z {G : am_En} {h : AH} {a : Int} {H : Heap} (ht : am_t h a = 23) : am_CO G h a H ↔ am_CI G (eZ G) 0 1 h a H := by unfold am_CO; rw [ht]; exact Iff.rfl
theorem am_CO_q {G : am_En} {h : AH} {a : Int} {H : Heap} (ht : am_t h a = 24) : am_CO G h a H ↔ am_CQ G (eQ G) h a H := by unfold am_CO; rw [ht]; exact Iff.rfl
theorem am_CO_r {G : am_En} {h : AH} {a : Int} {H : Heap} (ht : am_t h a = 25) : am_CO G h a H ↔ am_CQ G (eR G) h a H := by unfold am_CO; rw [ht]; exact Iff.rfl
theorem am_CO_j {G : am_En} {h : AH} {a : Int} {H : Heap} (ht : am_t h a = 22) : am_CO G h a H ↔ ∃ (n : Nat) (f : Nat → Int64), H[ea G a]? = some (arrV (eJ G) n (fun j => .long (f j))) ∧ am_l h a = (n : Int) ∧ n ≤ 4096 ∧ ∀ j : Nat, j < n → am_m h a (j : Int) = (f j).toInt := by unfold am_CO; rw [ht]; exact Iff.rfl
theorem am_CO_s {G : am_En} {h : AH} {a : Int} {H : Heap} (ht : am_t h a = 18) : am_CO G h a H ↔ ∃ j : Nat, j < 36 ∧ a = -(300000000 + 2 * (j : Int)) ∧ am_m h a 0 = -(300000000 + 2 * (j : Int) + 1) ∧ am_m h a 1 = 0 := by unfold am_CO; rw [ht]; exact Iff.rfl
theorem am_CO_b {G : am_En} {h : AH} {a : Int} {H : Heap} (ht : am_t h a = 26) : am_CO G h a H ↔ ∃ j : Nat, j < 38 ∧ a = -(300000000 + 2 * (j : Int) + 1) ∧ am_l h a = am_cn j ∧ ∀ i : Int, 0 ≤ i → i < am_cn j → am_m h a i = am_kc j i := by unfold am_CO; rw [ht]; exact Iff.rfl
theorem am_CI_kept {G : am_En} {cA : ClassId} {lo hi : Int} {h h1 : AH} {a : Int} {H H1 : Heap} (w : am_CI G cA lo hi h a H) (hq : H1[ea G a]? = H[ea G a]?) (hl : am_l h1 a = am_l h a) (hm : ∀ j, am_m h1 a j = am_m h a j) : am_CI G cA lo hi h1 a H1 := by
  obtain ⟨n, f, a1, a2, a3, a4⟩ := w
  exact ⟨n, f, hq.trans a1, hl.trans a2, a3, fun j hj => ⟨(hm _).trans (a4 j hj).1, (a4 j hj).2⟩⟩
theorem am_CQ_kept {G : am_En} {cA : ClassId} {h h1 : AH} {a : Int} {H H1 : Heap} (w : am_CQ G cA h a H) (hq : H1[ea G a]? = H[ea G a]?) (hl : am_l h1 a = am_l h a) (hm : ∀ j, am_m h1 a j = am_m h a j) : am_CQ G cA h1 a H1 := by
  obtain ⟨n, f, a1, a2, a3, a4⟩ := w
  exact ⟨n, f, hq.trans a1, hl.trans a2, a3, fun j hj => by rw [hm]; exact a4 j hj⟩
theorem am_CO_kept {G : am_En} {h h1 : AH} {a : Int} {H H1 : Heap} (w : am_CO G h a H) (hq : H1[ea G a]? = H[ea G a]?) (ht : am_t h1 a = am_t h a) (hl : am_l h1 a = am_l h a) (hm : ∀ j, am_m h1 a j = am_m h a j) : am_CO G h1 a H1 := by
  unfold am_CO at w ⊢
  rw [ht]
  generalize am_t h a = tt at w ⊢
  match tt, w with
  | 20, w => exact am_CI_kept w hq hl hm
  | 21, w => exact am_CI_kept w hq hl hm
  | 22, w =>
    obtain ⟨n, f, a1, a2, a3, a4⟩ := w
    exact ⟨n, f, hq.trans a1, hl.trans a2, a3, fun j hj => (hm _).trans (a4 j hj)⟩
  | 23, w => exact am_CI_kept w hq hl hm
  | 24, w => exact am_CQ_kept w hq hl hm
  | 25, w => exact am_CQ_kept w hq hl hm
  | 18, w =>
    obtain ⟨j, a1, a2, a3, a4⟩ := w
    exact ⟨j, a1, a2, (hm _).trans a3, (hm _).trans a4⟩
  | 26, w =>
    obtain ⟨j, a1, a2, a3, a4⟩ := w
    exact ⟨j, a1, a2, hl.trans a3, fun i h0 h1 => (hm _).trans (a4 i h0 h1)⟩
  | 0, w =>
    obtain ⟨q, V, a1, a2, a3⟩ := w
    exact ⟨q, V, a1, a2.kept hq, fun k hk => by rw [hm]; exact a3 k hk⟩
  | 1, w =>
    obtain ⟨q, V, a1, a2, a3⟩ := w
    exact ⟨q, V, a1, a2.kept hq, fun k hk => by rw [hm]; exact a3 k hk⟩
  | 2, w =>
    obtain ⟨q, V, a1, a2, a3⟩ := w
    exact ⟨q, V, a1, a2.kept hq, fun k hk => by rw [hm]; exact a3 k hk⟩
  | 3, w =>
    obtain ⟨q, V, a1, a2, a3⟩ := w
    exact ⟨q, V, a1, a2.kept hq, fun k hk => by rw [hm]; exact a3 k hk⟩
  | 4, w =>
    obtain ⟨q, V, a1, a2, a3⟩ := w
    exact ⟨q, V, a1, a2.kept hq, fun k hk => by rw [hm]; exact a3 k hk⟩
  | 5, w =>
    obtain ⟨q, V, a1, a2, a3⟩ := w
    exact ⟨q, V, a1, a2.kept hq, fun k hk => by rw [hm]; exact a3 k hk⟩
  | 6, w =>
    obtain ⟨q, V, a1, a2, a3⟩ := w
    exact ⟨q, V, a1, a2.kept hq, fun k hk => by rw [hm]; exact a3 k hk⟩
  | 7, w =>
    obtain ⟨q, V, a1, a2, a3⟩ := w
    exact ⟨q, V, a1, a2.kept hq, fun k hk => by rw [hm]; exact a3 k hk⟩
  | 8, w =>
    obtain ⟨q, V, a1, a2, a3⟩ := w
    exact ⟨q, V, a1, a2.kept hq, fun k hk => by rw [hm]; exact a3 k hk⟩
  | 9, w =>
    obtain ⟨q, V, a1, a2, a3⟩ := w
    exact ⟨q, V, a1, a2.kept hq, fun k hk => by rw [hm]; exact a3 k hk⟩
  | 10, w =>
    obtain ⟨q, V, a1, a2, a3⟩ := w
    exact ⟨q, V, a1, a2.kept hq, fun k hk => by rw [hm]; exact a3 k hk⟩
  | 11, w =>
    obtain ⟨q, V, a1, a2, a3⟩ := w
    exact ⟨q, V, a1, a2.kept hq, fun k hk => by rw [hm]; exact a3 k hk⟩
  | 12, w =>
    obtain ⟨q, V, a1, a2, a3⟩ := w
    exact ⟨q, V, a1, a2.kept hq, fun k hk => by rw [hm]; exact a3 k hk⟩
  | 13, w =>
    obtain ⟨q, V, a1, a2, a3⟩ := w
    exact ⟨q, V, a1, a2.kept hq, fun k hk => by rw [hm]; exact a3 k hk⟩
  | 14, w =>
    obtain ⟨q, V, a1, a2, a3⟩ := w
    exact ⟨q, V, a1, a2.kept hq, fun k hk => by rw [hm]; exact a3 k hk⟩
  | 15, w =>
    obtain ⟨q, V, a1, a2, a3⟩ := w
    exact ⟨q, V, a1, a2.kept hq, fun k hk => by rw [hm]; exact a3 k hk⟩
  | 16, w =>
    obtain ⟨q, V, a1, a2, a3⟩ := w
    exact ⟨q, V, a1, a2.kept hq, fun k hk => by rw [hm]; exact a3 k hk⟩
  | 17, w =>
    obtain ⟨q, V, a1, a2, a3⟩ := w
    exact ⟨q, V, a1, a2.kept hq, fun k hk => by rw [hm]; exact a3 k hk⟩
  | 19, w =>
    obtain ⟨q, V, a1, a2, a3⟩ := w
    exact ⟨q, V, a1, a2.kept hq, fun k hk => by rw [hm]; exact a3 k hk⟩
  | n + 27, w =>
    obtain ⟨q, V, a1, a2, a3⟩ := w
    exact ⟨q, V, a1, a2.kept hq, fun k hk => by rw [hm]; exact a3 k hk⟩
theorem am_m_w {h : AH} {a i v b j : Int} : am_m (am_w h a i v) b j = if b = a ∧ j = i then v else am_m h b j := rfl
theorem am_t_w {h : AH} {a i v b : Int} : am_t (am_w h a i v) b = am_t h b := rfl
theorem am_l_w {h : AH} {a i v b : Int} : am_l (am_w h a i v) b = am_l h b := rfl
theorem am_n_w {h : AH} {a i v : Int} : am_n (am_w h a i v) = am_n h := rfl
theorem am_HM_set {G : am_En} {h h1 : AH} {a : Int} {H H1 : Heap} (hH : am_HM G h H) (ha : am_wt (am_t h a)) (hz : H1.size = H.size) (oq : ∀ q : Nat, q ≠ ea G a → H1[q]? = H[q]?)
    (hn : am_n h1 = am_n h) (hsl : am_sl h1 = am_sl h) (hsx : ∀ j, am_sx h1 j = am_sx h j) (ht : ∀ b, am_t h1 b = am_t h b) (hl : ∀ b, am_l h1 b = am_l h b) (hm : ∀ b j, b ≠ a → am_m h1 b j = am_m h b j) (hC : am_CO G h1 a H1) : am_HM G h1 H1 := by
  have hne := @am_HM.ne G h H a
  obtain ⟨g1, ⟨g3, g4⟩, g5⟩ := id hH
  refine ⟨by unfold am_ph at g1 ⊢; rw [hn, hz]; exact g1, ⟨by rw [hsl]; exact g3, fun j hj => by rw [hsx]; exact g4 j hj⟩, fun b hb => ?_⟩
  rw [ht] at hb
  obtain ⟨b1, b2⟩ := g5 b hb
  refine ⟨by unfold am_ok at b1 ⊢; rw [hn, hz, ht]; exact b1, ?_⟩
  by_cases hba : b = a
  · rw [hba]; exact hC
  · exact am_CO_kept b2 (oq _ (hne hH ha hb hba)) (ht b) (hl b) (fun j => hm b j hba)
/-- a field that the tables name -/
def am_fok (m idx r1 r2 ty : Nat) (q : vw_C) : Prop := vwCl[r1 - 1]? = some q ∧ r2 < q.2.2 ∧ (am_ft r1).getD r2 0 = ty ∧ 1 ≤ r1 ∧ r1 ≤ 9 ∧ (∀ w ∈ u_ws q.1 q.2.1 q.2.2, w ∈ am_W) ∧
  (Cond.fieldLink (am_mn m).cls idx (q.2.1 r2).1 (q.2.1 r2).2.1 (q.2.1 r2).2.2.1 ∈ am_W ∨ ∃ host, Cond.fieldLinkNest (am_mn m).cls idx (q.2.1 r2).1 (q.2.1 r2).2.1 (q.2.1 r2).2.2.1 host ∈ lw_tbl)
section SIM
variable {G : am_En} {l : Launch} {d m : Nat} {p : Program} {e : Env} {R : Room} {s : State} {mth : MethodId} {args : Array Value} {below : List Frame} {meth : Method} {cd : Code} {Q : State → Prop} {K : AK} {X : AX} {Z : AC → Prop} {hs : List (Nat × Nat × Nat × Nat)}
variable {pc : Nat} {ls st : List AV} {h : AH} {c s0 : Nat}
theorem am_i_getfield (C : am_Cx G l d m p R s mth args meth cd) {idx r1 r2 ty : Nat} {q : vw_C} (hf : am_fok m idx r1 r2 ty q) (hd : decode (am_cd m) pc = .ok (.getfield idx, 3)) (w : am_stp X (am_Gl G m p l e R s mth args below meth cd Q) d hs K (am_pR st fun a r => am_ck (am_t h a = r1) (pc + 3, ls, (ty, am_m h a (r2 : Int)) :: r, h, c, s0))) : am_Gl G m p l e R s mth args below meth cd Q (pc, ls, st, h, c, s0) := by
  obtain ⟨hx, hb, hml, hown, hts, hW, hR, hlk, htr, hin⟩ := C
  have w1 := am_pR_inv w
  clear w
  obtain ⟨a, r, rfl, ht, w⟩ := w1
  obtain ⟨f1, f2, f4, f5, f6, f7, f8⟩ := hf
  intro H locs arr sv hH hS hL hst hc hs0
  dsimp only at hH hL hst hc hs0 ⊢
  have hq := am_RS_inv hst
  clear hst
  obtain ⟨V, sv, rfl, hV, hst⟩ := hq
  obtain ⟨g1, g2⟩ := hH.2.2 a (by omega)
  obtain ⟨q', F, b1, b2, b3⟩ := (am_CO_obj ht f5 f6).mp g2
  cases b1.symm.trans f1
  have hVa : V = .ref (ea G a) := by
    exact am_RVr hV (hH.o (a := a) (by omega)).1
  subst hVa
  have hK : va_K (eD G) vwCl [(eI G, .int), (eY G, .byte), (eJ G, .long), (eZ G, .boolean), (eQ G, .array .int), (eR G, .array .boolean)] s := hW.1.1
  have hP : va_P (eD G) vwCl [(ea G a, .inr (r1 - 1, (List.range q.2.2).map F))] H := by
    intro k x hk
    match k, hk with
    | 0, hk =>
      cases hk
      refine ⟨q, f1, b2.to fun k hk => ?_⟩
      simp [vp_V, hk]
    | k + 1, hk => simp at hk
  have hv : ((List.range q.2.2).map F)[r2]? = some (F r2) := by simp [f2]
  have kk : W p l e R s mth args below meth cd H locs c s0 Q (F0 mth (pc + 3) arr (F r2 :: sv)) := w H locs arr _ hH hS hL ⟨by rw [← f4]; exact b3 r2 f2, hst⟩ hc hs0
  rcases f8 with f8 | ⟨host, f8⟩
  · exact va_get (C := q.1) (T := q.2.1) (N := q.2.2) hx hb hts f7 hown hK hP 0 rfl f1 r2 f2 (hts _ f8) (fun x hx => hx) hv hd kk
  · exact va_getN (C := q.1) (T := q.2.1) (N := q.2.2) hx hb hts f7 hown hK hP 0 rfl f1 r2 f2 (va_Nw.use rfl (hW.1.2.1 _ f8 rfl)) (fun x hx => hx) hv hd kk
end SIM
