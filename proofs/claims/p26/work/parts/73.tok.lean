/-! ===== the tokens: signs, blanks ===== -/
def s_kw (i : Int) : Int := if i = 0 then 1167058 else if i = 1 then 4160 else if i = 2 then 42328439691 else if i = 3 then 173217 else if i = 4 then 347 else if i = 5 then 14052286 else if i = 6 then 42018920 else if i = 7 then 22961072 else if i = 8 then 178257695 else if i = 9 then 2789 else if i = 10 then 1176170 else if i = 11 then 1273225 else if i = 12 then 22479 else if i = 13 then 31075639 else if i = 14 then 305824 else if i = 15 then 4824820 else if i = 16 then 41893197686 else if i = 17 then 19741 else if i = 18 then 1891 else if i = 19 then 573 else if i = 20 then 18144 else 17858
def TK (h : AH) (ln po : Int) (tp : Int → Int) : Prop := (am_t h 22 = 5) ∧ (am_m h 22 0 = 23) ∧ (am_m h 22 1 = 24) ∧ (am_m h 22 2 = 25) ∧ (am_m h 22 3 = 26) ∧ (am_m h 22 4 = 1) ∧ (am_m h 22 5 = ln) ∧ (am_m h 22 6 = po) ∧ (am_t h 23 = 20) ∧ (am_l h 23 = 401) ∧ (am_t h 24 = 22) ∧ (am_l h 24 = 401) ∧ (am_t h 25 = 20) ∧ (am_l h 25 = 401) ∧ (am_t h 26 = 22) ∧ (am_l h 26 = 22) ∧ (am_t h 1 = 21) ∧ (am_l h 1 = 2000) ∧ (53 ≤ am_n h) ∧ (0 ≤ ln ∧ ln ≤ 2000) ∧ (0 ≤ po ∧ po ≤ ln) ∧ (∀ i, 0 ≤ i → i < ln → am_m h 1 i = am_i2b (tp i)) ∧ (∀ i, 0 ≤ i → i < ln → 0 ≤ tp i ∧ tp i < 256) ∧ (∀ i, 0 ≤ i → i < 22 → am_m h 26 i = s_kw i)
theorem TK.t {h : AH} {ln po : Int} {tp : Int → Int} (x : TK h ln po tp) : am_t h 22 = 5 := x.1
theorem TK.f0 {h : AH} {ln po : Int} {tp : Int → Int} (x : TK h ln po tp) : am_m h 22 0 = 23 := x.2.1
theorem TK.f1 {h : AH} {ln po : Int} {tp : Int → Int} (x : TK h ln po tp) : am_m h 22 1 = 24 := x.2.2.1
theorem TK.f2 {h : AH} {ln po : Int} {tp : Int → Int} (x : TK h ln po tp) : am_m h 22 2 = 25 := x.2.2.2.1
theorem TK.f3 {h : AH} {ln po : Int} {tp : Int → Int} (x : TK h ln po tp) : am_m h 22 3 = 26 := x.2.2.2.2.1
theorem TK.f4 {h : AH} {ln po : Int} {tp : Int → Int} (x : TK h ln po tp) : am_m h 22 4 = 1 := x.2.2.2.2.2.1
theorem TK.f5 {h : AH} {ln po : Int} {tp : Int → Int} (x : TK h ln po tp) : am_m h 22 5 = ln := x.2.2.2.2.2.2.1
theorem TK.f6 {h : AH} {ln po : Int} {tp : Int → Int} (x : TK h ln po tp) : am_m h 22 6 = po := x.2.2.2.2.2.2.2.1
theorem TK.t0 {h : AH} {ln po : Int} {tp : Int → Int} (x : TK h ln po tp) : am_t h 23 = 20 := x.2.2.2.2.2.2.2.2.1
theorem TK.l0 {h : AH} {ln po : Int} {tp : Int → Int} (x : TK h ln po tp) : am_l h 23 = 401 := x.2.2.2.2.2.2.2.2.2.1
theorem TK.t1 {h : AH} {ln po : Int} {tp : Int → Int} (x : TK h ln po tp) : am_t h 24 = 22 := x.2.2.2.2.2.2.2.2.2.2.1
theorem TK.l1 {h : AH} {ln po : Int} {tp : Int → Int} (x : TK h ln po tp) : am_l h 24 = 401 := x.2.2.2.2.2.2.2.2.2.2.2.1
theorem TK.t2 {h : AH} {ln po : Int} {tp : Int → Int} (x : TK h ln po tp) : am_t h 25 = 20 := x.2.2.2.2.2.2.2.2.2.2.2.2.1
theorem TK.l2 {h : AH} {ln po : Int} {tp : Int → Int} (x : TK h ln po tp) : am_l h 25 = 401 := x.2.2.2.2.2.2.2.2.2.2.2.2.2.1
theorem TK.t3 {h : AH} {ln po : Int} {tp : Int → Int} (x : TK h ln po tp) : am_t h 26 = 22 := x.2.2.2.2.2.2.2.2.2.2.2.2.2.2.1
theorem TK.l3 {h : AH} {ln po : Int} {tp : Int → Int} (x : TK h ln po tp) : am_l h 26 = 22 := x.2.2.2.2.2.2.2.2.2.2.2.2.2.2.2.1
theorem TK.ta {h : AH} {ln po : Int} {tp : Int → Int} (x : TK h ln po tp) : am_t h 1 = 21 := x.2.2.2.2.2.2.2.2.2.2.2.2.2.2.2.2.1
theorem TK.la {h : AH} {ln po : Int} {tp : Int → Int} (x : TK h ln po tp) : am_l h 1 = 2000 := x.2.2.2.2.2.2.2.2.2.2.2.2.2.2.2.2.2.1
theorem TK.n {h : AH} {ln po : Int} {tp : Int → Int} (x : TK h ln po tp) : 53 ≤ am_n h := x.2.2.2.2.2.2.2.2.2.2.2.2.2.2.2.2.2.2.1
theorem TK.lb {h : AH} {ln po : Int} {tp : Int → Int} (x : TK h ln po tp) : 0 ≤ ln ∧ ln ≤ 2000 := x.2.2.2.2.2.2.2.2.2.2.2.2.2.2.2.2.2.2.2.1
theorem TK.pb {h : AH} {ln po : Int} {tp : Int → Int} (x : TK h ln po tp) : 0 ≤ po ∧ po ≤ ln := x.2.2.2.2.2.2.2.2.2.2.2.2.2.2.2.2.2.2.2.2.1
theorem TK.tc {h : AH} {ln po : Int} {tp : Int → Int} (x : TK h ln po tp) : ∀ i, 0 ≤ i → i < ln → am_m h 1 i = am_i2b (tp i) := x.2.2.2.2.2.2.2.2.2.2.2.2.2.2.2.2.2.2.2.2.2.1
theorem TK.tr {h : AH} {ln po : Int} {tp : Int → Int} (x : TK h ln po tp) : ∀ i, 0 ≤ i → i < ln → 0 ≤ tp i ∧ tp i < 256 := x.2.2.2.2.2.2.2.2.2.2.2.2.2.2.2.2.2.2.2.2.2.2.1
theorem TK.kw {h : AH} {ln po : Int} {tp : Int → Int} (x : TK h ln po tp) : ∀ i, 0 ≤ i → i < 22 → am_m h 26 i = s_kw i := x.2.2.2.2.2.2.2.2.2.2.2.2.2.2.2.2.2.2.2.2.2.2.2
theorem c98 {d : Nat} {h : AH} {x : Int} {K : AK} (k : K 0 (if 97 ≤ x ∧ x ≤ 122 then 1 else 0) h) : am_call d 98 [(0, x)] h K := by
  refine v98 ⟨fun z => ⟨Or.inl rfl, ?_⟩, fun z => ⟨fun z2 => ⟨Or.inl rfl, ?_⟩, fun z2 => ⟨Or.inr rfl, ?_⟩⟩⟩
  · rw [if_neg (by omega)] at k
    exact k
  · rw [if_neg (by omega)] at k
    exact k
  · rw [if_pos (by omega)] at k
    exact k
theorem c99 {d : Nat} {h : AH} {x : Int} {K : AK} (k : K 0 (if 48 ≤ x ∧ x ≤ 57 then 1 else 0) h) : am_call d 99 [(0, x)] h K := by
  refine v99 ⟨fun z => ⟨Or.inl rfl, ?_⟩, fun z => ⟨fun z2 => ⟨Or.inl rfl, ?_⟩, fun z2 => ⟨Or.inr rfl, ?_⟩⟩⟩
  · rw [if_neg (by omega)] at k
    exact k
  · rw [if_neg (by omega)] at k
    exact k
  · rw [if_pos (by omega)] at k
    exact k
def s_dg37 (x : Int) : Int := if 97 ≤ x ∧ x ≤ 122 then x - 96 else x - 21
theorem c100 {d : Nat} {h : AH} {x : Int} {K : AK} (hx : 0 ≤ x ∧ x < 65536) (k : K 0 (s_dg37 x) h) : am_call (d + 1) 100 [(0, x)] h K := by
  unfold s_dg37 at k
  refine v100 (c98 ?_)
  show _ ∧ _
  rw [w32_id (x := x - 48) (by omega) (by omega), w32_id (x := x - 97) (by omega) (by omega), w32_id (x := x - 48 + 27) (by omega) (by omega), w32_id (x := x - 97 + 1) (by omega) (by omega)]
  refine ⟨fun z => ?_, fun z => ?_⟩
  · rw [if_neg (if1 z)] at k
    rw [show x - 48 + 27 = x - 21 by omega]
    exact k
  · rw [if_pos (if0 z)] at k
    rw [show x - 97 + 1 = x - 96 by omega]
    exact k
/-- the sign at a place of the tape, 0 behind its end -/
def s_ch (tp : Int → Int) (ln i : Int) : Int := if 0 ≤ i ∧ i < ln then tp i else 0
theorem i2b_255 {x : Int} (h0 : 0 ≤ x) (h1 : x < 256) : am_and (am_i2b x) 255 = x := by
  rw [am_and255]
  unfold am_i2b
  have e : (x.bmod 256) % ((256 : Nat) : Int) = x % ((256 : Nat) : Int) := Int.bmod_emod
  have e2 : (x.bmod 256) % 256 = x % 256 := e
  rw [e2]
  omega
section
variable {d : Nat} {h : AH} {ln po i : Int} {tp : Int → Int} {K : AK}
theorem c97 (x : TK h ln po tp) (k : K 0 (s_ch tp ln i) h) : am_call d 97 [(2, 22), (0, i)] h K := by
  have lb := x.lb
  unfold s_ch at k
  refine v97 ?_
  simp only [x.t, x.f4, x.f5, x.ta, x.la, true_and]
  refine ⟨fun z => ?_, fun z => ⟨fun z2 => ⟨⟨by omega, by omega⟩, ?_⟩, fun z2 => ?_⟩⟩
  · rw [if_neg (by omega)] at k
    exact k
  · rw [if_pos ⟨by omega, z2⟩] at k
    have r := x.tr i (by omega) z2
    rw [x.tc i (by omega) z2, i2b_255 r.1 r.2]
    exact k
  · rw [if_neg (by omega)] at k
    exact k
theorem TK.at {v : Int} (x : TK h ln po tp) (hv : 0 ≤ v ∧ v ≤ ln) : TK (am_w h 22 6 v) ln v tp := by
  have ee : ∀ b j, ¬ (b = 22 ∧ j = 6) → am_m (am_w h 22 6 v) b j = am_m h b j := fun b j hn => by rw [am_m_w, if_neg hn]
  exact ⟨x.t, (ee _ _ (by decide)).trans x.f0, (ee _ _ (by decide)).trans x.f1, (ee _ _ (by decide)).trans x.f2, (ee _ _ (by decide)).trans x.f3, (ee _ _ (by decide)).trans x.f4, (ee _ _ (by decide)).trans x.f5, by rw [am_m_w, if_pos ⟨rfl, rfl⟩], x.t0, x.l0, x.t1, x.l1, x.t2, x.l2, x.t3, x.l3, x.ta, x.la, x.n, x.lb, hv, fun j z1 z2 => (ee _ _ (by omega)).trans (x.tc j z1 z2), x.tr, fun j z1 z2 => (ee _ _ (by omega)).trans (x.kw j z1 z2)⟩
def s_skf (tp : Int → Int) (ln : Int) : Nat → Int → Int
  | 0, j => j
  | n + 1, j => if j < ln ∧ (tp j = 32 ∨ tp j = 10) then s_skf tp ln n (j + 1) else j
/-- behind the blanks -/
def s_sk (tp : Int → Int) (ln j : Int) : Int := s_skf tp ln (ln - j).toNat j
theorem s_sk_eq {j : Int} : s_sk tp ln j = if j < ln ∧ (tp j = 32 ∨ tp j = 10) then s_sk tp ln (j + 1) else j := by
  unfold s_sk
  by_cases z : j < ln
  · have e : (ln - j).toNat = (ln - (j + 1)).toNat + 1 := by omega
    rw [e]
    rfl
  · rw [if_neg (fun y => z y.1), show (ln - j).toNat = 0 by omega]
    rfl
theorem c92 (x : TK h ln po tp) (k : ∀ h2, Fr 22 5 h h2 → (∀ b j, ¬ (b = 22 ∧ j = 6) → am_m h2 b j = am_m h b j) → TK h2 ln (s_sk tp ln po) tp → K 0 0 h2) : am_call (d + 1) 92 [(2, 22)] h K := by
  have H : ∀ n : Nat, ∀ h1 p1, (ln - p1).toNat = n → Fr 22 5 h h1 → (∀ b j, ¬ (b = 22 ∧ j = 6) → am_m h1 b j = am_m h b j) → TK h1 ln p1 tp → s_sk tp ln p1 = s_sk tp ln po → WP (d + 1) 92 (0, [(2, 22)], [], h1, 0, 0) K := by
    intro n
    induction n with
    | zero =>
      intro h1 p1 hn f e x es
      have pb := x.pb
      refine v92_0 ?_
      simp only [x.t, x.f5, x.f6, true_and]
      refine ⟨fun z => absurd z (by omega), fun z => ?_⟩
      refine k h1 f e ?_
      rw [← es, s_sk_eq, if_neg (fun y => z y.1)]
      exact x
    | succ n ih =>
      intro h1 p1 hn f e x es
      have pb := x.pb
      have lb := x.lb
      rw [s_sk_eq] at es
      have nx : (tp p1 = 32 ∨ tp p1 = 10) → WP (d + 1) 92 (0, [(2, 22)], [], am_w h1 22 6 (p1 + 1), 0, 0) K := fun z => by
        rw [if_pos ⟨by omega, z⟩] at es
        exact ih _ (p1 + 1) (by omega) (f.w (by decide) (by decide)) (fun b j hb => by rw [am_m_w, if_neg hb]; exact e b j hb) (x.at ⟨by omega, by omega⟩) es
      have ec : s_ch tp ln p1 = tp p1 := if_pos ⟨by omega, by omega⟩
      refine v92_0 ?_
      simp only [x.t, x.f5, x.f6, true_and]
      refine ⟨fun z => c97 x ?_, fun z => absurd (show p1 < ln by omega) z⟩
      rw [ec]
      show _ ∧ _
      simp only [x.t, x.f6, true_and]
      rw [w32_id (x := p1 + 1) (by omega) (by omega)]
      refine ⟨fun z1 => ?_, fun z1 => ?_⟩
      · exact nx (Or.inl z1)
      · refine c97 x ?_
        rw [ec]
        show _ ∧ _
        simp only [x.t, x.f6, true_and]
        rw [w32_id (x := p1 + 1) (by omega) (by omega)]
        refine ⟨fun z2 => ?_, fun z2 => ?_⟩
        · exact nx (Or.inr z2)
        · refine k h1 f e ?_
          rw [if_neg (fun y => y.2.elim z1 z2)] at es
          rw [← es]
          exact x
  exact H _ h po rfl Fr.rf (fun _ _ _ => rfl) x rfl
end
