/-! ===== the reference: one token ===== -/
theorem sy_all : ∀ b : Nat, b < 256 → s_if 2 (am_i2b (b : Int)) 13 0 = s_if 1 (am_i2b (b : Int)) 13 0 ∧ (¬ (0 < b ∧ b < 128) → s_if 1 (am_i2b (b : Int)) 13 0 < 0) := by decide +kernel
theorem sy1 {d : Nat} {h : AH} {v : Int} {K : AK} (hv : 0 ≤ v ∧ v < 256) (k : K 0 (if s_if 1 (am_i2b v) 13 0 < 0 then 901 else 50 + v) h) : (((0 : Int) < v) → ((v < 128) → am_call (d + 3) 3 [(5, 2), (0, am_i2c v)] h (fun x13 v14 h15 => am_okx x13 (((v14 < 0) → K 0 901 h15) ∧ (¬ (v14 < 0) → K 0 (w32 (50 + v)) h15)))) ∧ (¬ (v < 128) → K 0 901 h)) ∧ (¬ ((0 : Int) < v) → K 0 901 h) := by
  have sa := sy_all v.toNat (by omega)
  rw [show ((v.toNat : Nat) : Int) = v by omega] at sa
  have ec : am_i2c v = v := by
    unfold am_i2c
    omega
  rw [ec]
  refine ⟨fun z1 => ⟨fun z2 => c3 (by rw [tn2]; decide) hv ?_, fun z2 => ?_⟩, fun z1 => ?_⟩
  · rw [tn2, show (13 : Int).toNat = 13 from rfl, sa.1]
    refine okx ⟨fun z => ?_, fun z => ?_⟩
    · rw [if_pos z] at k
      exact k
    · rw [if_neg z] at k
      rw [w32_id (x := 50 + v) (by omega) (by omega)]
      exact k
  · rw [if_pos (sa.2 (by omega))] at k
    exact k
  · rw [if_pos (sa.2 (by omega))] at k
    exact k
theorem s_wf_v {tp : Int → Int} {ln : Int} : ∀ (n : Nat) (j v v2 : Int), (s_wf tp ln n j v).1 = (s_wf tp ln n j v2).1
  | 0, _, _, _ => rfl
  | n + 1, j, v, v2 => by
    show (if j < ln ∧ (s_le (tp j) = true ∨ s_di (tp j) = true) then s_wf tp ln n (j + 1) (w64 (w64 (v * 37) + s_dg37 (tp j))) else (j, v)).1 = (if j < ln ∧ (s_le (tp j) = true ∨ s_di (tp j) = true) then s_wf tp ln n (j + 1) (w64 (w64 (v2 * 37) + s_dg37 (tp j))) else (j, v2)).1
    split
    · exact s_wf_v n _ _ _
    · rfl
theorem s_wd_v {tp : Int → Int} {ln j v v2 : Int} : (s_wd tp ln j v).1 = (s_wd tp ln j v2).1 := s_wf_v _ _ _ _
theorem s_nf_v {tp : Int → Int} {ln : Int} : ∀ (n : Nat) (j v v2 : Int), (s_nf0 tp ln n j v).1 = (s_nf0 tp ln n j v2).1
  | 0, _, _, _ => rfl
  | n + 1, j, v, v2 => by
    show (if j < ln ∧ s_di (tp j) = true then s_nf0 tp ln n (j + 1) (w64 (w64 (w64 (v * 10) + tp j) - 48)) else (j, v)).1 = (if j < ln ∧ s_di (tp j) = true then s_nf0 tp ln n (j + 1) (w64 (w64 (w64 (v2 * 10) + tp j) - 48)) else (j, v2)).1
    split
    · exact s_nf_v n _ _ _
    · rfl
theorem s_nu_v {tp : Int → Int} {ln j v v2 : Int} : (s_nu tp ln j v).1 = (s_nu tp ln j v2).1 := s_nf_v _ _ _ _
section
variable {d : Nat} {h : AH} {pp ss : TT} {tt : Int → List Op} {tp : Int → Int} {tl er q p x : Int} {K : AK}
/-- what is asked of the answer -/
def KO (h : AH) (K : AK) (tp : Int → Int) (tl p x : Int) : Prop := ∀ v, ((s_one tp tl p).1 ≠ 261 → p + v = (s_one tp tl p).2.1) → K 0 (rk (s_one tp tl p).1) (am_w h 57 x v)
theorem c163_w (g : GM h pp ss tt tl tp er q) (h0 : 0 ≤ p) (hlt : p < tl) (hx : 0 ≤ x ∧ x < 401) (zl : 97 ≤ tp p ∧ tp p ≤ 122) (k1 : KO h K tp tl p x) {y5 : AV} : ∀ n : Nat, ∀ e : Int, (tl - e).toNat = n → p < e → e ≤ tl → (s_wd tp tl e 0).1 = (s_wd tp tl p 0).1 → WP (d + 5) 163 (34, [(2, 53), (0, p), (0, x), (0, tp p), (0, e), y5], [], h, 0, 0) K := by
  have tb := g.tb
  have f7 : am_m h 53 7 = 57 := g.c.M.f7
  have t4 : am_t h 57 = 20 := g.c.M.t4
  have l4 : am_l h 57 = 401 := g.c.M.l4
  have zle : s_le (tp p) = true := decide_eq_true zl
  have body : ∀ e : Int, p < e → e ≤ tl → (s_wd tp tl e 0).1 = (s_wd tp tl p 0).1 → (e < tl → (s_wd tp tl (e + 1) 0).1 = (s_wd tp tl p 0).1 → WP (d + 5) 163 (34, [(2, 53), (0, p), (0, x), (0, tp p), (0, e + 1), y5], [], h, 0, 0) K) → WP (d + 5) 163 (34, [(2, 53), (0, p), (0, x), (0, tp p), (0, e), y5], [], h, 0, 0) K := by
    intro e he1 he2 es nx
    have eb : e < tl → s_by tp tl e = tp e := fun z => if_pos z
    have en : ¬ e < tl → s_by tp tl e = -1 := fun z => if_neg z
    have nx2 : e < tl → (s_le (tp e) = true ∨ s_di (tp e) = true) → WP (d + 5) 163 (34, [(2, 53), (0, p), (0, x), (0, tp p), (0, w32 (e + 1)), y5], [], h, 0, 0) K := fun z1 z2 => by
      rw [w32_id (x := e + 1) (by omega) (by omega)]
      refine nx z1 ?_
      rw [s_wd_eq, if_pos ⟨z1, z2⟩] at es
      exact s_wd_v.trans es
    by_cases zd : 48 ≤ s_by tp tl e ∧ s_by tp tl e ≤ 57
    · have z1 : e < tl := by
        by_cases y : e < tl
        · exact y
        · have := en y
          omega
      have zd2 := zd
      rw [eb z1] at zd2
      refine v163_34 ⟨g.c.M.t, c162 g (by omega) (okx (c161 ?_))⟩
      rw [if_pos zd]
      exact okx ⟨fun y => absurd y (by decide), fun _ => nx2 z1 (Or.inr (decide_eq_true zd2))⟩
    · refine v163_34 ⟨g.c.M.t, c162 g (by omega) (okx (c161 ?_))⟩
      rw [if_neg zd]
      refine okx ⟨fun _ => c160 ?_, fun y => absurd rfl y⟩
      rw [if_pos zl]
      refine okx ⟨fun y => absurd y (by decide), fun _ => ⟨g.c.M.t, c162 g (by omega) (okx (c160 ?_))⟩⟩
      by_cases zz : 97 ≤ s_by tp tl e ∧ s_by tp tl e ≤ 122
      · have z1 : e < tl := by
          by_cases y : e < tl
          · exact y
          · have := en y
            omega
        have zz2 := zz
        rw [eb z1] at zz2
        rw [if_pos zz]
        exact okx ⟨fun y => absurd y (by decide), fun _ => nx2 z1 (Or.inl (decide_eq_true zz2))⟩
      · rw [if_neg zz]
        have ew : (s_wd tp tl e 0).1 = e := by
          rw [s_wd_eq, if_neg]
          rintro ⟨y1, y2⟩
          have al := le_alnum y2
          unfold alnum at al
          rw [← eb y1] at al
          omega
        have eE : (s_wd tp tl p 0).1 = e := es.symm.trans ew
        have k2 := k1 (e - p)
        have eo : s_one tp tl p = if 10 < e - p then (261, e, none) else (s_ky (s_wd tp tl p 0).2 22 0, e, some (s_wd tp tl p 0).2) := by
          unfold s_one
          rw [if_pos zle, eE]
        rw [eo] at k2
        refine okx ⟨fun _ => ?_, fun y => absurd rfl y⟩
        simp only [g.c.M.t, f7, t4, l4, true_and]
        rw [w32_id (x := e - p) (by omega) (by omega)]
        refine ⟨⟨by omega, by omega⟩, c160 ?_⟩
        rw [if_pos zl]
        refine okx ⟨fun y => absurd y (by decide), fun _ => ⟨fun z10 => ?_, fun z10 => c160 ?_⟩⟩
        · rw [if_pos z10] at k2
          exact k2 (fun y => absurd rfl y)
        · rw [if_pos zl]
          rw [if_neg z10] at k2
          have g2 : GM (am_w h 57 x (e - p)) pp ss tt tl tp er q := g.ro (by omega)
          refine okx ⟨fun y => absurd y (by decide), fun _ => ⟨g2.c.M.t, c164 g2 h0 (by omega) (by omega) (okx ?_)⟩⟩
          have wc := wd_cw (tp := tp) (ln := tl) (p := p) _ 0 rfl (by omega) (fun i hi => absurd hi (Nat.not_lt_zero i)) (show (0 : Int) < (37 : Int) ^ 0 by decide)
          rw [show p + ((0 : Nat) : Int) = p by omega] at wc
          have wc' := wc (show (s_wd tp tl p 0).1 ≤ p + 10 by omega)
          obtain ⟨e2, q1, q2, q3, q4, q5⟩ := wc'
          have q3' : s_wd tp tl p 0 = (p + (e2 : Int), cwF (fun i => tp (p + (i : Int))) e2) := q3
          rw [q3'] at eE k2
          have e3 : e - p = (e2 : Int) := by
            have : p + (e2 : Int) = e := eE
            omega
          have kb := kb_ky (tp := tp) (p := p) q4 22 0 rfl
          have k3 := k2 (fun _ => by show p + (e - p) = e; omega)
          rw [e3] at k3 ⊢
          have kb' : s_kb tp p (e2 : Int) 22 0 = rk (s_ky (cwF (fun i => tp (p + (i : Int))) e2) 22 0) := kb
          rw [kb']
          exact k3
  intro n
  induction n with
  | zero =>
    intro e hn he1 he2 es
    exact body e he1 he2 es (fun y => absurd y (by omega))
  | succ n ih =>
    intro e hn he1 he2 es
    exact body e he1 he2 es (fun y es2 => ih (e + 1) (by omega) (by omega) (by omega) es2)
theorem c163_d (g : GM h pp ss tt tl tp er q) (h0 : 0 ≤ p) (hlt : p < tl) (hx : 0 ≤ x ∧ x < 401) (zl : 48 ≤ tp p ∧ tp p ≤ 57) (k1 : KO h K tp tl p x) {y5 : AV} : ∀ n : Nat, ∀ e : Int, (tl - e).toNat = n → p < e → e ≤ tl → (s_nu tp tl e 0).1 = (s_nu tp tl p 0).1 → WP (d + 5) 163 (34, [(2, 53), (0, p), (0, x), (0, tp p), (0, e), y5], [], h, 0, 0) K := by
  have tb := g.tb
  have f7 : am_m h 53 7 = 57 := g.c.M.f7
  have t4 : am_t h 57 = 20 := g.c.M.t4
  have l4 : am_l h 57 = 401 := g.c.M.l4
  have zle : ¬ s_le (tp p) = true := fun y => by
    have := of_decide_eq_true y
    omega
  have zdi : s_di (tp p) = true := decide_eq_true zl
  have nl : ¬ (97 ≤ tp p ∧ tp p ≤ 122) := fun y => by omega
  have body : ∀ e : Int, p < e → e ≤ tl → (s_nu tp tl e 0).1 = (s_nu tp tl p 0).1 → (e < tl → (s_nu tp tl (e + 1) 0).1 = (s_nu tp tl p 0).1 → WP (d + 5) 163 (34, [(2, 53), (0, p), (0, x), (0, tp p), (0, e + 1), y5], [], h, 0, 0) K) → WP (d + 5) 163 (34, [(2, 53), (0, p), (0, x), (0, tp p), (0, e), y5], [], h, 0, 0) K := by
    intro e he1 he2 es nx
    have eb : e < tl → s_by tp tl e = tp e := fun z => if_pos z
    have en : ¬ e < tl → s_by tp tl e = -1 := fun z => if_neg z
    by_cases zd : 48 ≤ s_by tp tl e ∧ s_by tp tl e ≤ 57
    · have z1 : e < tl := by
        by_cases y : e < tl
        · exact y
        · have := en y
          omega
      have zd2 := zd
      rw [eb z1] at zd2
      refine v163_34 ⟨g.c.M.t, c162 g (by omega) (okx (c161 ?_))⟩
      rw [if_pos zd]
      refine okx ⟨fun y => absurd y (by decide), fun _ => ?_⟩
      rw [w32_id (x := e + 1) (by omega) (by omega)]
      refine nx z1 ?_
      rw [s_nu_eq, if_pos ⟨z1, decide_eq_true zd2⟩] at es
      exact s_nu_v.trans es
    · refine v163_34 ⟨g.c.M.t, c162 g (by omega) (okx (c161 ?_))⟩
      rw [if_neg zd]
      refine okx ⟨fun _ => c160 ?_, fun y => absurd rfl y⟩
      rw [if_neg nl]
      have ew : (s_nu tp tl e 0).1 = e := by
        rw [s_nu_eq, if_neg]
        rintro ⟨y1, y2⟩
        have al := of_decide_eq_true y2
        rw [← eb y1] at al
        omega
      have eE : (s_nu tp tl p 0).1 = e := es.symm.trans ew
      have k2 := k1 (e - p)
      have eo : s_one tp tl p = (if 6 < e - p then 261 else 257, e, some (s_nu tp tl p 0).2) := by
        unfold s_one
        rw [if_neg zle, if_pos zdi, eE]
      rw [eo] at k2
      refine okx ⟨fun _ => ?_, fun y => absurd rfl y⟩
      simp only [g.c.M.t, f7, t4, l4, true_and]
      rw [w32_id (x := e - p) (by omega) (by omega)]
      refine ⟨⟨by omega, by omega⟩, c160 ?_⟩
      rw [if_neg nl]
      refine okx ⟨fun _ => ⟨fun z6 => ?_, fun z6 => c160 ?_⟩, fun y => absurd rfl y⟩
      · rw [if_pos z6] at k2
        exact k2 (fun y => absurd rfl y)
      · rw [if_neg nl]
        rw [if_neg z6] at k2
        exact okx ⟨fun _ => k2 (fun _ => by show p + (e - p) = e; omega), fun y => absurd rfl y⟩
  intro n
  induction n with
  | zero =>
    intro e hn he1 he2 es
    exact body e he1 he2 es (fun y => absurd y (by omega))
  | succ n ih =>
    intro e hn he1 he2 es
    exact body e he1 he2 es (fun y es2 => ih (e + 1) (by omega) (by omega) (by omega) es2)
theorem rk_sign {v : Int} (h0 : 0 ≤ v) (h1 : v < 256) : rk v = 50 + v := by
  unfold rk
  rw [if_neg (by omega), if_neg (by omega), if_neg (by omega), if_neg (by omega), if_neg (by omega), if_neg (by omega), if_neg (by omega)]
theorem c163 (g : GM h pp ss tt tl tp er q) (hr : ∀ i, 0 ≤ i → i < tl → 0 ≤ tp i ∧ tp i < 256) (h0 : 0 ≤ p) (hx : 0 ≤ x ∧ x < 401) (k0 : ¬ p < tl → K 0 900 h) (k1 : p < tl → KO h K tp tl p x) : am_call (d + 5) 163 [(2, 53), (0, p), (0, x)] h K := by
  have tb := g.tb
  have f7 : am_m h 53 7 = 57 := g.c.M.f7
  have t4 : am_t h 57 = 20 := g.c.M.t4
  have l4 : am_l h 57 = 401 := g.c.M.l4
  by_cases hlt : p < tl
  · have k1 := k1 hlt
    have rg := hr p h0 hlt
    have eb : s_by tp tl p = tp p := if_pos hlt
    refine v163 ⟨g.c.M.t, c162 g h0 ?_⟩
    rw [eb]
    refine okx ⟨fun y => absurd y (by omega), fun _ => c160 ?_⟩
    by_cases zl : 97 ≤ tp p ∧ tp p ≤ 122
    · rw [if_pos zl]
      refine okx ⟨fun y => absurd y (by decide), fun _ => ?_⟩
      rw [w32_id (x := p + 1) (by omega) (by omega)]
      refine c163_w g h0 hlt hx zl k1 _ _ rfl (by omega) (by omega) ?_
      have e := s_wd_eq (tp := tp) (ln := tl) (j := p) (v := 0)
      rw [if_pos ⟨hlt, Or.inl (decide_eq_true zl)⟩] at e
      rw [e]
      exact s_wd_v
    · rw [if_neg zl]
      refine okx ⟨fun _ => c161 ?_, fun y => absurd rfl y⟩
      by_cases zd : 48 ≤ tp p ∧ tp p ≤ 57
      · rw [if_pos zd]
        refine okx ⟨fun y => absurd y (by decide), fun _ => ?_⟩
        rw [w32_id (x := p + 1) (by omega) (by omega)]
        refine c163_d g h0 hlt hx zd k1 _ _ rfl (by omega) (by omega) ?_
        have e := s_nu_eq (tp := tp) (ln := tl) (j := p) (v := 0)
        rw [if_pos ⟨hlt, decide_eq_true zd⟩] at e
        rw [e]
        exact s_nu_v
      · rw [if_neg zd]
        have nle : ¬ s_le (tp p) = true := fun y => zl (of_decide_eq_true y)
        have ndi : ¬ s_di (tp p) = true := fun y => zd (of_decide_eq_true y)
        have eo : s_one tp tl p = ((s_sm tp tl p).1, (s_sm tp tl p).2, none) := by
          unfold s_one
          rw [if_neg nle, if_neg ndi]
        have es : s_sm tp tl p = if s_if 1 (am_i2b (tp p)) 13 0 < 0 then (261, p) else if (tp p = 60 ∨ tp p = 62) ∧ s_ch tp tl (p + 1) = 61 then (if tp p = 60 then 258 else 259, p + 2) else (tp p, p + 1) := rfl
        unfold KO at k1
        rw [eo] at k1
        have one : ¬ ((tp p = 60 ∨ tp p = 62) ∧ s_ch tp tl (p + 1) = 61) → K 0 (if s_if 1 (am_i2b (tp p)) 13 0 < 0 then 901 else 50 + tp p) (am_w h 57 x 1) := fun z => by
          have k2 := k1 1
          rw [es] at k2
          by_cases zi : s_if 1 (am_i2b (tp p)) 13 0 < 0
          · rw [if_pos zi] at k2 ⊢
            exact k2 (fun y => absurd rfl y)
          · rw [if_neg zi] at k2 ⊢
            rw [if_neg z] at k2
            rw [← rk_sign rg.1 rg.2]
            exact k2 (fun _ => rfl)
        have two : (tp p = 60 ∨ tp p = 62) ∧ s_ch tp tl (p + 1) = 61 → K 0 (if tp p = 60 then 300 else 301) (am_w h 57 x 2) := fun z => by
          have k2 := k1 2
          rw [es] at k2
          have zi : ¬ s_if 1 (am_i2b (tp p)) 13 0 < 0 := by
            rcases z.1 with e | e
            · rw [e]
              decide
            · rw [e]
              decide
          rw [if_neg zi, if_pos z] at k2
          by_cases y : tp p = 60
          · rw [if_pos y] at k2 ⊢
            exact k2 (fun _ => rfl)
          · rw [if_neg y] at k2 ⊢
            exact k2 (fun _ => rfl)
        have ch : s_by tp tl (p + 1) = 61 ↔ s_ch tp tl (p + 1) = 61 := by
          unfold s_by s_ch
          by_cases y : p + 1 < tl
          · rw [if_pos y, if_pos ⟨by omega, y⟩]
          · rw [if_neg y, if_neg (fun w => y w.2)]
            constructor
            · intro w
              exact absurd w (by decide)
            · intro w
              exact absurd w (by decide)
        refine okx ⟨fun _ => ⟨fun z60 => ⟨g.c.M.t, ?_⟩, fun z60 => ⟨fun z62 => ⟨g.c.M.t, ?_⟩, fun z62 => ⟨g.c.M.t, ?_⟩⟩⟩, fun y => absurd rfl y⟩
        · rw [w32_id (x := p + 1) (by omega) (by omega)]
          refine c162 g (by omega) (okx ⟨fun y => ⟨g.c.M.t, fun w => absurd w (by decide), fun _ => ?_⟩, fun y => ⟨g.c.M.t, fun _ => ?_, fun w => absurd rfl w⟩⟩)
          · simp only [f7, t4, l4, true_and]
            refine ⟨⟨by omega, by omega⟩, fun w => absurd w (by decide), fun _ => ⟨fun w => ?_, fun w => absurd z60 w⟩⟩
            have k3 := two ⟨Or.inl z60, ch.1 y⟩
            rw [if_pos w] at k3
            exact k3
          · simp only [f7, t4, l4, true_and]
            exact ⟨⟨by omega, by omega⟩, fun _ => sy1 rg (one (fun w => y (ch.2 w.2))), fun w => absurd trivial w⟩
        · rw [w32_id (x := p + 1) (by omega) (by omega)]
          refine c162 g (by omega) (okx ⟨fun y => ⟨g.c.M.t, fun w => absurd w (by decide), fun _ => ?_⟩, fun y => ⟨g.c.M.t, fun _ => ?_, fun w => absurd rfl w⟩⟩)
          · simp only [f7, t4, l4, true_and]
            refine ⟨⟨by omega, by omega⟩, fun w => absurd w (by decide), fun _ => ⟨fun w => absurd w z60, fun w => ?_⟩⟩
            have k3 := two ⟨Or.inr z62, ch.1 y⟩
            rw [if_neg w] at k3
            exact k3
          · simp only [f7, t4, l4, true_and]
            exact ⟨⟨by omega, by omega⟩, fun _ => sy1 rg (one (fun w => y (ch.2 w.2))), fun w => absurd trivial w⟩
        · refine ⟨fun _ => ?_, fun w => absurd rfl w⟩
          simp only [f7, t4, l4, true_and]
          exact ⟨⟨by omega, by omega⟩, fun _ => sy1 rg (one (fun w => by omega)), fun w => absurd trivial w⟩
  · have eb : s_by tp tl p = -1 := if_neg hlt
    refine v163 ⟨g.c.M.t, c162 g h0 ?_⟩
    rw [eb]
    exact okx ⟨fun _ => k0 hlt, fun y => absurd rfl y⟩
end

