/-! ===== the reference: the whole tape cut ===== -/
def KV (x : Int) : Prop := (0 < x ∧ x < 128) ∨ (256 ≤ x ∧ x ≤ 261) ∨ (300 ≤ x ∧ x ≤ 321)
theorem rk_lt {x : Int} (h : KV x) : rk x < 900 ↔ x ≠ 260 ∧ x ≠ 261 := by
  unfold rk
  unfold KV at h
  repeat' split
  all_goals omega
theorem rk_inj {x y : Int} (hx : KV x) (hy : KV y) : rk x = rk y ↔ x = y := by
  constructor
  · intro e
    unfold rk at e
    unfold KV at hx hy
    repeat' split at e
    all_goals omega
  · intro e
    rw [e]
theorem s_ky_rg {x : Int} : ∀ n w : Nat, w + n = 22 → s_ky x n (w : Int) = 256 ∨ (300 ≤ s_ky x n (w : Int) ∧ s_ky x n (w : Int) ≤ 321)
  | 0, w, _ => Or.inl rfl
  | n + 1, w, hw => by
    show (if am_lcmp (s_kw (w : Int)) x = 0 then 300 + (w : Int) else s_ky x n ((w : Int) + 1)) = 256 ∨ (300 ≤ (if am_lcmp (s_kw (w : Int)) x = 0 then 300 + (w : Int) else s_ky x n ((w : Int) + 1)) ∧ (if am_lcmp (s_kw (w : Int)) x = 0 then 300 + (w : Int) else s_ky x n ((w : Int) + 1)) ≤ 321)
    split
    · omega
    · exact s_ky_rg n (w + 1) (by omega)
section
variable {tp : Int → Int} {ln p : Int}
theorem kv1 : KV 261 ∧ (261 : Int) ≠ 260 := ⟨Or.inr (Or.inl ⟨by decide, by decide⟩), by decide⟩
theorem s_one_kv (h0 : 0 ≤ tp p ∧ tp p < 256) : KV (s_one tp ln p).1 ∧ (s_one tp ln p).1 ≠ 260 := by
  unfold s_one
  split
  · split
    · exact kv1
    · have := s_ky_rg (x := (s_wd tp ln p 0).2) 22 0 rfl
      have e : s_ky (s_wd tp ln p 0).2 22 ((0 : Nat) : Int) = s_ky (s_wd tp ln p 0).2 22 0 := rfl
      rw [e] at this
      show KV (s_ky (s_wd tp ln p 0).2 22 0) ∧ s_ky (s_wd tp ln p 0).2 22 0 ≠ 260
      unfold KV
      omega
  · split
    · show KV (if 6 < (s_nu tp ln p 0).1 - p then 261 else 257) ∧ (if 6 < (s_nu tp ln p 0).1 - p then 261 else 257) ≠ (260 : Int)
      split
      · exact kv1
      · exact ⟨Or.inr (Or.inl ⟨by decide, by decide⟩), by decide⟩
    · show KV (s_sm tp ln p).1 ∧ (s_sm tp ln p).1 ≠ 260
      unfold s_sm
      have sa := (sy_all (tp p).toNat (by omega)).2
      rw [show (((tp p).toNat : Nat) : Int) = tp p by omega] at sa
      split
      · exact kv1
      · rename_i z
        split
        · show KV (if tp p = 60 then 258 else 259) ∧ (if tp p = 60 then 258 else 259) ≠ (260 : Int)
          split
          · exact ⟨Or.inr (Or.inl ⟨by decide, by decide⟩), by decide⟩
          · exact ⟨Or.inr (Or.inl ⟨by decide, by decide⟩), by decide⟩
        · have : 0 < (tp p).toNat ∧ (tp p).toNat < 128 := by
            by_cases y : 0 < (tp p).toNat ∧ (tp p).toNat < 128
            · exact y
            · exact absurd (sa y) z
          refine ⟨Or.inl ⟨?_, ?_⟩, ?_⟩
          · show 0 < tp p
            omega
          · show tp p < 128
            omega
          · show tp p ≠ 260
            omega
theorem s_one_bd (hp : p < ln) : p ≤ (s_one tp ln p).2.1 ∧ (s_one tp ln p).2.1 ≤ ln ∧ ((s_one tp ln p).1 ≠ 261 → p < (s_one tp ln p).2.1) := by
  unfold s_one
  split
  · rename_i zl
    have b := s_wd_bd (tp := tp) (ln := ln) _ (p + 1) (w64 (w64 (0 * 37) + s_dg37 (tp p))) rfl (by omega)
    have e := s_wd_eq (tp := tp) (ln := ln) (j := p) (v := 0)
    rw [if_pos ⟨hp, Or.inl zl⟩] at e
    rw [← e] at b
    split
    · exact ⟨by show p ≤ (s_wd tp ln p 0).1; omega, b.2, fun y => absurd rfl y⟩
    · exact ⟨by show p ≤ (s_wd tp ln p 0).1; omega, b.2, fun _ => by show p < (s_wd tp ln p 0).1; omega⟩
  · split
    · rename_i zd
      have b := s_nu_bd (tp := tp) (ln := ln) _ (p + 1) (w64 (w64 (w64 (0 * 10) + tp p) - 48)) rfl (by omega)
      have e := s_nu_eq (tp := tp) (ln := ln) (j := p) (v := 0)
      rw [if_pos ⟨hp, zd⟩] at e
      rw [← e] at b
      exact ⟨by show p ≤ (s_nu tp ln p 0).1; omega, b.2, fun _ => by show p < (s_nu tp ln p 0).1; omega⟩
    · show p ≤ (s_sm tp ln p).2 ∧ (s_sm tp ln p).2 ≤ ln ∧ ((s_sm tp ln p).1 ≠ 261 → p < (s_sm tp ln p).2)
      unfold s_sm
      split
      · exact ⟨Int.le_refl _, Int.le_of_lt hp, fun y => absurd rfl y⟩
      · split
        · rename_i z
          have e := z.2
          unfold s_ch at e
          split at e
          · exact ⟨by show p ≤ p + 2; omega, by show p + 2 ≤ ln; omega, fun _ => by show p < p + 2; omega⟩
          · exact absurd e (by decide)
        · exact ⟨by show p ≤ p + 1; omega, by show p + 1 ≤ ln; omega, fun _ => by show p < p + 1; omega⟩
end
/-- the rows of the reference show tokens -/
def RN (h : AH) (tp : Int → Int) (tl : Int) (m : Nat) : Prop := ∀ j : Nat, j < m → am_m h 55 (j : Int) = rk (s_kd tp tl j) ∧ am_m h 56 (j : Int) = s_st tp tl j ∧ am_m h 58 (j : Int) = 0 ∧ am_m h 59 (j : Int) = 0 ∧ (s_kd tp tl j ≠ 260 → s_kd tp tl j ≠ 261 → s_st tp tl j + am_m h 57 (j : Int) = (s_one tp tl (s_st tp tl j)).2.1)
theorem RN.w {h : AH} {tp : Int → Int} {tl b v : Int} {m i : Nat} (x : RN h tp tl m) (hi : m ≤ i) : RN (am_w h b (i : Int) v) tp tl m := fun j hj => by
  rw [am_m_w, if_neg (by omega), am_m_w, if_neg (by omega), am_m_w, if_neg (by omega), am_m_w, if_neg (by omega), am_m_w, if_neg (by omega)]
  exact x j hj
section
variable {d : Nat} {h : AH} {pp ss : TT} {tt : Int → List Op} {tp : Int → Int} {tl er q : Int} {K : AK}
theorem c165 (g : GM h pp ss tt tl tp er q) (hr : ∀ i, 0 ≤ i → i < tl → 0 ≤ tp i ∧ tp i < 256) (kk : ∀ h2 m, Fr 55 5 h h2 → GM h2 pp ss tt tl tp er q → s_en tp tl m → RN h2 tp tl (m + 1) → K 0 0 h2) : am_call (d + 6) 165 [(2, 53)] h K := by
  have tb := g.tb
  refine v165 ?_
  suffices H : ∀ n i : Nat, i + n = 400 → ∀ h1 a, Fr 55 5 h h1 → GM h1 pp ss tt tl tp er q → s_sk tp tl a = s_st tp tl i → (0 ≤ a ∧ a ≤ tl) → RN h1 tp tl i → (∀ j, j < i → s_kd tp tl j ≠ 260 ∧ s_kd tp tl j ≠ 261) → WP (d + 6) 165 (4, [(2, 53), (0, a), (0, (i : Int))], [], h1, 0, 0) K from H 400 0 rfl h 0 Fr.rf g rfl ⟨Int.le_refl _, tb.1⟩ (fun j hj => absurd hj (Nat.not_lt_zero j)) (fun j hj => absurd hj (Nat.not_lt_zero j))
  intro n
  have body : ∀ i : Nat, i ≤ 400 → ∀ h1 a, Fr 55 5 h h1 → GM h1 pp ss tt tl tp er q → s_sk tp tl a = s_st tp tl i → (0 ≤ a ∧ a ≤ tl) → RN h1 tp tl i → (∀ j, j < i → s_kd tp tl j ≠ 260 ∧ s_kd tp tl j ≠ 261) → (i < 400 → ∀ h2 a2, Fr 55 5 h h2 → GM h2 pp ss tt tl tp er q → s_sk tp tl a2 = s_st tp tl (i + 1) → (0 ≤ a2 ∧ a2 ≤ tl) → RN h2 tp tl (i + 1) → (∀ j, j < i + 1 → s_kd tp tl j ≠ 260 ∧ s_kd tp tl j ≠ 261) → WP (d + 6) 165 (4, [(2, 53), (0, a2), (0, ((i + 1 : Nat) : Int))], [], h2, 0, 0) K) → WP (d + 6) 165 (4, [(2, 53), (0, a), (0, (i : Int))], [], h1, 0, 0) K := by
    intro i hi h1 a f1 g1 es ab rn ne nx
    -- behind the blanks
    have last : ∀ a, s_st tp tl i = a → (0 ≤ a ∧ a ≤ tl) → WP (d + 6) 165 (44, [(2, 53), (0, a), (0, (i : Int))], [], am_w h1 56 (i : Int) a, 0, 0) K := by
      intro a ea ab
      have g2 : GM (am_w h1 56 (i : Int) a) pp ss tt tl tp er q := g1.ro (by omega)
      have f8 : ∀ h2, GM h2 pp ss tt tl tp er q → am_m h2 53 8 = 58 ∧ am_t h2 58 = 20 ∧ am_l h2 58 = 401 ∧ am_m h2 53 9 = 59 ∧ am_t h2 59 = 20 ∧ am_l h2 59 = 401 ∧ am_m h2 53 5 = 55 ∧ am_t h2 55 = 20 ∧ am_l h2 55 = 401 ∧ am_m h2 53 7 = 57 ∧ am_t h2 57 = 20 ∧ am_l h2 57 = 401 := fun h2 g2 => ⟨g2.c.M.f8, g2.c.M.t5, g2.c.M.l5, g2.c.M.f9, g2.c.M.t6, g2.c.M.l6, g2.c.M.f5, g2.c.M.t2, g2.c.M.l2, g2.c.M.f7, g2.c.M.t4, g2.c.M.l4⟩
      obtain ⟨a1, a2, a3, a4, a5, a6, a7, a8, a9, a10, a11, a12⟩ := f8 _ g2
      refine v165_44 ?_
      simp only [g2.c.M.t, a1, a2, a3, true_and]
      refine ⟨⟨by omega, by omega⟩, ?_⟩
      have g3 : GM (am_w (am_w h1 56 (i : Int) a) 58 (i : Int) 0) pp ss tt tl tp er q := g2.ro (by omega)
      obtain ⟨a1, a2, a3, a4, a5, a6, a7, a8, a9, a10, a11, a12⟩ := f8 _ g3
      refine v165_51 ?_
      simp only [g3.c.M.t, a4, a5, a6, true_and]
      refine ⟨⟨by omega, by omega⟩, ?_⟩
      have g4 : GM (am_w (am_w (am_w h1 56 (i : Int) a) 58 (i : Int) 0) 59 (i : Int) 0) pp ss tt tl tp er q := g3.ro (by omega)
      have rn4 : RN (am_w (am_w (am_w h1 56 (i : Int) a) 58 (i : Int) 0) 59 (i : Int) 0) tp tl i := ((rn.w (Nat.le_refl _)).w (Nat.le_refl _)).w (Nat.le_refl _)
      have f4 : Fr 55 5 h (am_w (am_w (am_w h1 56 (i : Int) a) 58 (i : Int) 0) 59 (i : Int) 0) := ((f1.w (by decide) (by decide)).w (by decide) (by decide)).w (by decide) (by decide)
      have m56 : am_m (am_w (am_w (am_w h1 56 (i : Int) a) 58 (i : Int) 0) 59 (i : Int) 0) 56 (i : Int) = a := by rw [am_m_w, if_neg (by omega), am_m_w, if_neg (by omega), am_m_w, if_pos ⟨rfl, rfl⟩]
      have m58 : am_m (am_w (am_w (am_w h1 56 (i : Int) a) 58 (i : Int) 0) 59 (i : Int) 0) 58 (i : Int) = 0 := by rw [am_m_w, if_neg (by omega), am_m_w, if_pos ⟨rfl, rfl⟩]
      have m59 : am_m (am_w (am_w (am_w h1 56 (i : Int) a) 58 (i : Int) 0) 59 (i : Int) 0) 59 (i : Int) = 0 := by rw [am_m_w, if_pos ⟨rfl, rfl⟩]
      generalize am_w (am_w (am_w h1 56 (i : Int) a) 58 (i : Int) 0) 59 (i : Int) 0 = h4 at g4 rn4 f4 m56 m58 m59 ⊢
      -- a heap in which all of the token stands
      have fin : ∀ h5, Fr 55 5 h h5 → GM h5 pp ss tt tl tp er q → RN h5 tp tl i → am_m h5 55 (i : Int) = rk (s_kd tp tl i) → am_m h5 56 (i : Int) = a → am_m h5 58 (i : Int) = 0 → am_m h5 59 (i : Int) = 0 → (s_kd tp tl i ≠ 260 → s_kd tp tl i ≠ 261 → a + am_m h5 57 (i : Int) = (s_one tp tl a).2.1) → WP (d + 6) 165 (98, [(2, 53), (0, a), (0, (i : Int))], [], h5, 0, 0) K := by
        intro h5 f5 g5 rn5 e55 e56 e58 e59 e57
        obtain ⟨a1, a2, a3, a4, a5, a6, a7, a8, a9, a10, a11, a12⟩ := f8 _ g5
        have rn6 : RN h5 tp tl (i + 1) := fun j hj => by
          by_cases y : j = i
          · subst y
            rw [ea]
            exact ⟨e55, e56, e58, e59, e57⟩
          · exact rn5 j (by omega)
        have kv : KV (s_kd tp tl i) := by
          unfold s_kd
          split
          · rename_i z
            split
            · exact Or.inr (Or.inl ⟨by decide, by decide⟩)
            · rw [ea] at z ⊢
              exact (s_one_kv (hr a ab.1 z)).1
          · exact Or.inr (Or.inl ⟨by decide, by decide⟩)
        refine v165_98 ?_
        simp only [g5.c.M.t, a7, a8, a9, a10, a11, a12, e55, true_and]
        refine ⟨⟨by omega, by omega⟩, fun z => ⟨⟨by omega, by omega⟩, ?_⟩, fun z => ?_⟩
        · have nk := (rk_lt kv).1 z
          have e7 := e57 nk.1 nk.2
          have lt : s_st tp tl i < tl := by
            by_cases y : s_st tp tl i < tl
            · exact y
            · exact absurd (if_neg y) nk.1
          have n4 : i ≠ 400 := fun y => nk.2 (by unfold s_kd; rw [if_pos lt, if_pos y])
          rw [ea] at lt
          have bd := s_one_bd (tp := tp) lt
          rw [e7, w32_id (x := (s_one tp tl a).2.1) (by omega) (by omega), w32_nat (by omega)]
          refine nx (by omega) h5 _ f5 g5 ?_ ⟨by omega, bd.2.1⟩ rn6 (fun j hj => ?_)
          · show _ = s_sk tp tl (s_one tp tl (s_st tp tl i)).2.1
            rw [ea]
          · by_cases y : j = i
            · subst y
              exact nk
            · exact ne j (by omega)
        · refine kk h5 i f5 g5 ⟨hi, ?_, ne⟩ rn6
          by_cases y : s_kd tp tl i = 260
          · exact Or.inl y
          · by_cases y2 : s_kd tp tl i = 261
            · exact Or.inr y2
            · exact absurd ((rk_lt kv).2 ⟨y, y2⟩) z
      -- the kind is written
      have wr : ∀ h5 v2, Fr 55 5 h h5 → GM h5 pp ss tt tl tp er q → RN h5 tp tl i → am_m h5 56 (i : Int) = a → am_m h5 58 (i : Int) = 0 → am_m h5 59 (i : Int) = 0 → (s_kd tp tl i ≠ 260 → s_kd tp tl i ≠ 261 → a + am_m h5 57 (i : Int) = (s_one tp tl a).2.1) → (i ≠ 400 → v2 = rk (s_kd tp tl i)) → (v2 = 900 ↔ ¬ a < tl) → WP (d + 6) 165 (69, [(2, 53), (0, a), (0, (i : Int))], [(0, v2), (0, (i : Int)), (2, 55)], h5, 0, 0) K := by
        intro h5 v2 f5 g5 rn5 e56 e58 e59 e57 hv hv2
        obtain ⟨a1, a2, a3, a4, a5, a6, a7, a8, a9, a10, a11, a12⟩ := f8 _ g5
        refine v165_69 ?_
        simp only [a8, a9, true_and]
        refine ⟨⟨by omega, by omega⟩, ?_⟩
        have g6 : GM (am_w h5 55 (i : Int) v2) pp ss tt tl tp er q := g5.ro (by omega)
        have f6 : Fr 55 5 h (am_w h5 55 (i : Int) v2) := f5.w (by decide) (by decide)
        have rn6 : RN (am_w h5 55 (i : Int) v2) tp tl i := rn5.w (Nat.le_refl _)
        have e55 : am_m (am_w h5 55 (i : Int) v2) 55 (i : Int) = v2 := by rw [am_m_w, if_pos ⟨rfl, rfl⟩]
        have eo : ∀ b j, b ≠ 55 → am_m (am_w h5 55 (i : Int) v2) b j = am_m h5 b j := fun b j z => by rw [am_m_w, if_neg (by omega)]
        have e56' := (eo 56 (i : Int) (by decide)).trans e56
        have e58' := (eo 58 (i : Int) (by decide)).trans e58
        have e59' := (eo 59 (i : Int) (by decide)).trans e59
        have e57' : s_kd tp tl i ≠ 260 → s_kd tp tl i ≠ 261 → a + am_m (am_w h5 55 (i : Int) v2) 57 (i : Int) = (s_one tp tl a).2.1 := fun z1 z2 => by
          rw [eo 57 (i : Int) (by decide)]
          exact e57 z1 z2
        generalize am_w h5 55 (i : Int) v2 = h6 at g6 f6 rn6 e55 e56' e58' e59' e57' ⊢
        obtain ⟨a1, a2, a3, a4, a5, a6, a7, a8, a9, a10, a11, a12⟩ := f8 _ g6
        refine v165_70 ?_
        simp only [g6.c.M.t, a7, a8, a9, e55, true_and]
        refine ⟨fun z4 => ⟨⟨by omega, by omega⟩, fun z => ?_, fun z => ⟨⟨by omega, by omega⟩, ?_⟩⟩, fun z4 => ?_⟩
        · have ek : s_kd tp tl i = 260 := by
            unfold s_kd
            rw [ea, if_neg (hv2.1 z)]
          exact fin h6 f6 g6 rn6 (by rw [e55, z, ek]; rfl) e56' e58' e59' e57'
        · have lt : a < tl := by
            by_cases y : a < tl
            · exact y
            · exact absurd (hv2.2 y) z
          have ek : s_kd tp tl i = 261 := by
            unfold s_kd
            rw [ea, if_pos lt, if_pos (by omega)]
          refine fin _ (f6.w (by decide) (by decide)) (g6.ro (by omega)) (rn6.w (Nat.le_refl _)) ?_ ?_ ?_ ?_ (fun _ y => absurd ek y)
          · rw [am_m_w, if_pos ⟨rfl, rfl⟩, ek]
            rfl
          · rw [am_m_w, if_neg (by omega)]
            exact e56'
          · rw [am_m_w, if_neg (by omega)]
            exact e58'
          · rw [am_m_w, if_neg (by omega)]
            exact e59'
        · exact fin h6 f6 g6 rn6 (e55.trans (hv (by omega))) e56' e58' e59' e57'
      obtain ⟨a1, a2, a3, a4, a5, a6, a7, a8, a9, a10, a11, a12⟩ := f8 _ g4
      refine v165_58 ⟨g4.c.M.t, g4.c.M.t, ?_⟩
      rw [a7]
      refine c163 g4 hr ab.1 ⟨by omega, by omega⟩ (fun z => okx ?_) (fun z v hv => okx ?_)
      · refine wr h4 900 f4 g4 rn4 m56 m58 m59 (fun y => absurd (by unfold s_kd; rw [ea, if_neg z]) y) (fun _ => ?_) ⟨fun _ => z, fun _ => rfl⟩
        unfold s_kd
        rw [ea, if_neg z]
        rfl
      · have e4 : i ≠ 400 → s_kd tp tl i = (s_one tp tl a).1 := fun y => by
          unfold s_kd
          rw [ea, if_pos z, if_neg y]
        have n9 : rk (s_one tp tl a).1 ≠ 900 := by
          have kv := s_one_kv (ln := tl) (hr a ab.1 z)
          exact fun y => kv.2 ((rk_inj kv.1 (Or.inr (Or.inl ⟨by decide, by decide⟩))).1 (y.trans (show (900 : Int) = rk 260 from rfl)))
        refine wr _ _ (f4.w (by decide) (by decide)) (g4.ro (by omega)) (rn4.w (Nat.le_refl _)) ?_ ?_ ?_ (fun y1 y2 => ?_) (fun y => by rw [e4 y]) ⟨fun y => absurd y n9, fun y => absurd z y⟩
        · rw [am_m_w, if_neg (by omega)]
          exact m56
        · rw [am_m_w, if_neg (by omega)]
          exact m58
        · rw [am_m_w, if_neg (by omega)]
          exact m59
        · rw [am_m_w, if_pos ⟨rfl, rfl⟩]
          by_cases y4 : i = 400
          · exact absurd (by unfold s_kd; rw [ea, if_pos z, if_pos y4]) y2
          · rw [e4 y4] at y2
            exact hv y2
    refine v165_4 ⟨fun z => absurd z (by omega), fun _ => ?_⟩
    suffices H2 : ∀ n2 : Nat, ∀ a, (tl - a).toNat = n2 → s_sk tp tl a = s_st tp tl i → (0 ≤ a ∧ a ≤ tl) → WP (d + 6) 165 (11, [(2, 53), (0, a), (0, (i : Int))], [], h1, 0, 0) K from H2 _ a rfl es ab
    have b2 : ∀ a, s_sk tp tl a = s_st tp tl i → (0 ≤ a ∧ a ≤ tl) → (a < tl → s_sk tp tl (a + 1) = s_st tp tl i → WP (d + 6) 165 (11, [(2, 53), (0, a + 1), (0, (i : Int))], [], h1, 0, 0) K) → WP (d + 6) 165 (11, [(2, 53), (0, a), (0, (i : Int))], [], h1, 0, 0) K := by
      intro a es ab nx2
      have eb : a < tl → s_by tp tl a = tp a := fun z => if_pos z
      have en : ¬ a < tl → s_by tp tl a = -1 := fun z => if_neg z
      have go : (s_by tp tl a = 32 ∨ s_by tp tl a = 10) → WP (d + 6) 165 (11, [(2, 53), (0, w32 (a + 1)), (0, (i : Int))], [], h1, 0, 0) K := fun z => by
        have lt : a < tl := by
          by_cases y : a < tl
          · exact y
          · have := en y
            omega
        rw [eb lt] at z
        rw [w32_id (x := a + 1) (by omega) (by omega)]
        refine nx2 lt ?_
        rw [s_sk_eq, if_pos ⟨lt, z⟩] at es
        exact es
      refine v165_11 ⟨g1.c.M.t, c162 g1 ab.1 (okx ?_)⟩
      refine v165_16 ⟨fun z => go (Or.inl z), fun z => ⟨g1.c.M.t, c162 g1 ab.1 (okx ?_)⟩⟩
      refine v165_26 ⟨fun z2 => go (Or.inr z2), fun z2 => ?_⟩
      have a6 : am_m h1 53 6 = 56 := g1.c.M.f6
      have t6 : am_t h1 56 = 20 := g1.c.M.t3
      have l6 : am_l h1 56 = 401 := g1.c.M.l3
      simp only [g1.c.M.t, a6, t6, l6, true_and]
      refine ⟨⟨by omega, by omega⟩, last a ?_ ab⟩
      rw [← es, s_sk_eq, if_neg]
      rintro ⟨y1, y2⟩
      rw [eb y1] at z z2
      omega
    intro n2
    induction n2 with
    | zero =>
      intro a hn es ab
      exact b2 a es ab (fun y => absurd y (by omega))
    | succ n2 ih =>
      intro a hn es ab
      exact b2 a es ab (fun y es2 => ih (a + 1) (by omega) es2 (by omega))
  induction n with
  | zero =>
    intro i hi h1 a f1 g1 es ab rn ne
    exact body i (by omega) h1 a f1 g1 es ab rn ne (fun y => absurd y (by omega))
  | succ n ih =>
    intro i hi h1 a f1 g1 es ab rn ne
    exact body i (by omega) h1 a f1 g1 es ab rn ne (fun _ h2 a2 f2 g2 es2 ab2 rn2 ne2 => ih (i + 1) (by omega) h2 a2 f2 g2 es2 ab2 rn2 ne2)
end
