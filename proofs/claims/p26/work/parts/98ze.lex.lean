/-! ===== texts as lists of bytes, cut into tokens ===== -/
def BY (tp : Int → Int) : Int → List Int → Prop
  | _, [] => True
  | p, b :: r => tp p = b ∧ BY tp (p + 1) r
theorem BY_app {tp : Int → Int} : ∀ {a b : List Int} {p : Int}, BY tp p (a ++ b) → BY tp p a ∧ BY tp (p + (a.length : Int)) b
  | [], b, p, h => by
    refine ⟨trivial, ?_⟩
    show BY tp (p + 0) b
    rw [Int.add_zero]
    exact h
  | x :: a, b, p, h => by
    have h' : tp p = x ∧ BY tp (p + 1) (a ++ b) := h
    obtain ⟨i1, i2⟩ := BY_app h'.2
    refine ⟨⟨h'.1, i1⟩, ?_⟩
    rw [show p + ((x :: a).length : Int) = p + 1 + (a.length : Int) by
      have : ((x :: a).length : Int) = (a.length : Int) + 1 := by simp
      omega]
    exact i2
/-- tokens (kind, value) from a place on -/
def LX (tp : Int → Int) (ln : Int) : Int → List (Int × Int) → Prop
  | p, [] => ¬ s_sk tp ln p < ln
  | p, (k, v) :: L => s_sk tp ln p < ln ∧ (s_one tp ln (s_sk tp ln p)).1 = k ∧ (s_one tp ln (s_sk tp ln p)).2.2.getD 0 = v ∧ LX tp ln (s_one tp ln (s_sk tp ln p)).2.1 L
theorem LX_st {tp : Int → Int} {ln : Int} {L0 : List (Int × Int)} (h : LX tp ln 0 L0) : ∀ m : Nat, m ≤ L0.length → ∃ p, s_st tp ln m = s_sk tp ln p ∧ LX tp ln p (L0.drop m)
  | 0, _ => ⟨0, rfl, h⟩
  | m + 1, hm => by
    obtain ⟨p, e, i⟩ := LX_st h m (by omega)
    have hc : ∃ x r, L0.drop m = x :: r := by
      cases hd : L0.drop m with
      | nil =>
        have : (L0.drop m).length = 0 := by rw [hd]; rfl
        rw [List.length_drop] at this
        omega
      | cons x r => exact ⟨x, r, rfl⟩
    obtain ⟨⟨k, v⟩, r, hd⟩ := hc
    rw [hd] at i
    have hr : L0.drop (m + 1) = r := by
      rw [← List.drop_drop, Nat.add_comm] at *
      first
      | (rw [hd]; rfl)
      | skip
    refine ⟨(s_one tp ln (s_st tp ln m)).2.1, rfl, ?_⟩
    rw [hr, e]
    exact i.2.2.2
theorem LX_kd {tp : Int → Int} {ln : Int} {L0 : List (Int × Int)} (h : LX tp ln 0 L0) (hl : L0.length ≤ 400) : (∀ m : Nat, m < L0.length → s_kd tp ln m = (L0.getD m (260, 0)).1 ∧ s_va tp ln m = (L0.getD m (260, 0)).2) ∧ s_kd tp ln L0.length = 260 := by
  refine ⟨fun m hm => ?_, ?_⟩
  · obtain ⟨p, e, i⟩ := LX_st h m (by omega)
    have hd : L0.drop m = L0[m] :: L0.drop (m + 1) := List.drop_eq_getElem_cons hm
    rw [hd] at i
    have hg : L0.getD m (260, 0) = L0[m] := by rw [List.getD_eq_getElem?_getD, List.getElem?_eq_getElem hm]; rfl
    rw [hg]
    unfold s_kd s_va
    rw [e, if_pos i.1, if_neg (by omega), if_pos i.1, if_neg (by omega)]
    exact ⟨i.2.1, i.2.2.1⟩
  · obtain ⟨p, e, i⟩ := LX_st h L0.length (Nat.le_refl _)
    rw [List.drop_length] at i
    unfold s_kd
    rw [e]
    exact if_neg i
/-- a text and its tokens, wherever it stands -/
def Lx (bs : List Int) (L : List (Int × Int)) : Prop := ∀ (tp : Int → Int) (ln p : Int), 0 ≤ p → BY tp p bs → p + (bs.length : Int) = ln → LX tp ln p L
theorem LX_cg {tp : Int → Int} {ln p q : Int} (e : s_sk tp ln p = s_sk tp ln q) : ∀ {L : List (Int × Int)}, LX tp ln q L → LX tp ln p L
  | [], h => by
    show ¬ s_sk tp ln p < ln
    rw [e]; exact h
  | (k, v) :: L, h => by
    show s_sk tp ln p < ln ∧ _
    rw [e]; exact h
theorem Lx_nil : Lx [] [] := fun tp ln p _ _ e => by
  show ¬ s_sk tp ln p < ln
  have e' : p + 0 = ln := e
  rw [s_sk_eq, if_neg (by omega)]
  omega
theorem Lx_sp {r : List Int} {L : List (Int × Int)} {b : Int} (hb : b = 32 ∨ b = 10) (h : Lx r L) : Lx (b :: r) L := fun tp ln p p0 y e => by
  have e' : p + ((r.length + 1 : Nat) : Int) = ln := e
  obtain ⟨y1, y2⟩ := (show tp p = b ∧ BY tp (p + 1) r from y)
  refine LX_cg ?_ (h tp ln (p + 1) (by omega) y2 (by omega))
  rw [s_sk_eq, if_pos ⟨by omega, by omega⟩]
def cwv : Int → List Int → Int
  | v, [] => v
  | v, b :: r => cwv (w64 (w64 (v * 37) + s_dg37 b)) r
def nuv : Int → List Int → Int
  | v, [] => v
  | v, b :: r => nuv (w64 (w64 (w64 (v * 10) + b) - 48)) r
def isW (b : Int) : Bool := s_le b || s_di b
theorem wd_eat {tp : Int → Int} {ln : Int} : ∀ (w : List Int) (p v : Int), w.all isW = true → BY tp p w → p + (w.length : Int) < ln → isW (tp (p + (w.length : Int))) = false → s_wd tp ln p v = (p + (w.length : Int), cwv v w)
  | [], p, v, _, _, h1, h2 => by
    have h1' : p + 0 < ln := h1
    have h2' : isW (tp (p + 0)) = false := h2
    rw [Int.add_zero] at h2'
    unfold isW at h2'
    rw [Bool.or_eq_false_iff] at h2'
    rw [s_wd_eq, if_neg (fun z => by
      rcases z.2 with y | y
      · rw [y] at h2'; exact absurd h2'.1 (by decide)
      · rw [y] at h2'; exact absurd h2'.2 (by decide))]
    show (p, v) = (p + 0, v)
    rw [Int.add_zero]
  | b :: w, p, v, ha, hy, h1, h2 => by
    have ha' : (isW b && w.all isW) = true := ha
    rw [Bool.and_eq_true] at ha'
    obtain ⟨y1, y2⟩ := (show tp p = b ∧ BY tp (p + 1) w from hy)
    have e : p + ((b :: w).length : Int) = p + 1 + (w.length : Int) := by
      have : ((b :: w).length : Int) = (w.length : Int) + 1 := by simp
      omega
    rw [e] at h1 h2 ⊢
    have hw : s_le (tp p) = true ∨ s_di (tp p) = true := by
      have := ha'.1
      unfold isW at this
      rw [Bool.or_eq_true] at this
      rw [y1]; exact this
    rw [s_wd_eq, if_pos ⟨by omega, hw⟩, wd_eat w (p + 1) _ ha'.2 y2 h1 h2, y1]
    rfl
theorem nu_eat {tp : Int → Int} {ln : Int} : ∀ (w : List Int) (p v : Int), w.all s_di = true → BY tp p w → p + (w.length : Int) < ln → s_di (tp (p + (w.length : Int))) = false → s_nu tp ln p v = (p + (w.length : Int), nuv v w)
  | [], p, v, _, _, h1, h2 => by
    have h2' : s_di (tp (p + 0)) = false := h2
    rw [Int.add_zero] at h2'
    rw [s_nu_eq, if_neg (fun z => by rw [h2'] at z; exact absurd z.2 (by decide))]
    show (p, v) = (p + 0, v)
    rw [Int.add_zero]
  | b :: w, p, v, ha, hy, h1, h2 => by
    have ha' : (s_di b && w.all s_di) = true := ha
    rw [Bool.and_eq_true] at ha'
    obtain ⟨y1, y2⟩ := (show tp p = b ∧ BY tp (p + 1) w from hy)
    have e : p + ((b :: w).length : Int) = p + 1 + (w.length : Int) := by
      have : ((b :: w).length : Int) = (w.length : Int) + 1 := by simp
      omega
    rw [e] at h1 h2 ⊢
    rw [s_nu_eq, if_pos ⟨by omega, by rw [y1]; exact ha'.1⟩, nu_eat w (p + 1) _ ha'.2 y2 h1 h2, y1]
    rfl
theorem sk_no {tp : Int → Int} {ln p : Int} (h : ¬ (tp p = 32 ∨ tp p = 10)) : s_sk tp ln p = p := by
  rw [s_sk_eq, if_neg (fun z => h z.2)]
theorem Lx_w {b c : Int} {w r : List Int} {L : List (Int × Int)} (hl : s_le b = true) (ha : w.all isW = true) (hn : w.length ≤ 9) (hc : isW c = false) (h : Lx (c :: r) L) : Lx (b :: (w ++ c :: r)) ((s_ky (cwv 0 (b :: w)) 22 0, cwv 0 (b :: w)) :: L) := fun tp ln p p0 y e => by
  have y' : BY tp p ((b :: w) ++ c :: r) := y
  obtain ⟨y1, y2⟩ := BY_app y'
  have yb : tp p = b := y1.1
  have yc : tp (p + ((b :: w).length : Int)) = c := y2.1
  have el : ((b :: w).length : Int) = (w.length : Int) + 1 := by simp
  have e2 : p + ((b :: w).length : Int) + ((c :: r).length : Int) = ln := by
    have a1 : ((b :: (w ++ c :: r)).length : Int) = (w.length : Int) + ((c :: r).length : Int) + 1 := by simp
    omega
  have ec : ((c :: r).length : Int) = (r.length : Int) + 1 := by simp
  have hb : ¬ (tp p = 32 ∨ tp p = 10) := by
    rw [yb]
    unfold s_le at hl
    simp only [decide_eq_true_eq] at hl
    omega
  have hw := wd_eat (tp := tp) (ln := ln) (b :: w) p 0 (by
    show (isW b && w.all isW) = true
    rw [ha]
    unfold isW
    rw [hl]; rfl) y1 (by omega) (by rw [yc]; exact hc)
  have ho : s_one tp ln p = (s_ky (cwv 0 (b :: w)) 22 0, p + ((b :: w).length : Int), some (cwv 0 (b :: w))) := by
    unfold s_one
    rw [yb, if_pos hl, hw, if_neg (by show ¬ 10 < p + ((b :: w).length : Int) - p; omega)]
  show s_sk tp ln p < ln ∧ _
  rw [sk_no hb, ho]
  exact ⟨by omega, rfl, rfl, h tp ln _ (by show 0 ≤ p + ((b :: w).length : Int); omega) y2 e2⟩
theorem Lx_n {b c : Int} {w r : List Int} {L : List (Int × Int)} (hb' : s_di b = true) (ha : w.all s_di = true) (hn : w.length ≤ 5) (hc : s_di c = false) (h : Lx (c :: r) L) : Lx (b :: (w ++ c :: r)) ((257, nuv 0 (b :: w)) :: L) := fun tp ln p p0 y e => by
  have y' : BY tp p ((b :: w) ++ c :: r) := y
  obtain ⟨y1, y2⟩ := BY_app y'
  have yb : tp p = b := y1.1
  have yc : tp (p + ((b :: w).length : Int)) = c := y2.1
  have el : ((b :: w).length : Int) = (w.length : Int) + 1 := by simp
  have e2 : p + ((b :: w).length : Int) + ((c :: r).length : Int) = ln := by
    have a1 : ((b :: (w ++ c :: r)).length : Int) = (w.length : Int) + ((c :: r).length : Int) + 1 := by simp
    omega
  have ec : ((c :: r).length : Int) = (r.length : Int) + 1 := by simp
  have hd := hb'
  unfold s_di at hd
  simp only [decide_eq_true_eq] at hd
  have hb : ¬ (tp p = 32 ∨ tp p = 10) := by
    rw [yb]
    omega
  have hl : s_le b = false := by
    unfold s_le
    rw [decide_eq_false (by omega)]
  have hw := nu_eat (tp := tp) (ln := ln) (b :: w) p 0 (by
    show (s_di b && w.all s_di) = true
    rw [ha, hb']; rfl) y1 (by omega) (by rw [yc]; exact hc)
  have ho : s_one tp ln p = (257, p + ((b :: w).length : Int), some (nuv 0 (b :: w))) := by
    unfold s_one
    rw [yb, hl, if_neg (by decide), hb', if_pos rfl, hw, if_neg (by show ¬ 6 < p + ((b :: w).length : Int) - p; omega)]
  show s_sk tp ln p < ln ∧ _
  rw [sk_no hb, ho]
  exact ⟨by omega, rfl, rfl, h tp ln _ (by show 0 ≤ p + ((b :: w).length : Int); omega) y2 e2⟩
/-- a symbol of one sign, behind which no = makes it another -/
theorem Lx_y {c : Int} {r : List Int} {L : List (Int × Int)} (hl : s_le c = false) (hd : s_di c = false) (hb : ¬ (c = 32 ∨ c = 10)) (hs : ¬ s_if 1 (am_i2b c) 13 0 < 0) (hn : ¬ (c = 60 ∨ c = 62) ∨ ∃ b r', r = b :: r' ∧ ¬ b = 61) (h : Lx r L) : Lx (c :: r) ((c, 0) :: L) := fun tp ln p p0 y e => by
  obtain ⟨y1, y2⟩ := (show tp p = c ∧ BY tp (p + 1) r from y)
  have e' : p + ((r.length + 1 : Nat) : Int) = ln := e
  have hx : ¬ ((tp p = 60 ∨ tp p = 62) ∧ s_ch tp ln (p + 1) = 61) := by
    rw [y1]
    rcases hn with z | ⟨b, r', er, z⟩
    · exact fun w => z w.1
    · intro w
      subst er
      have yb : tp (p + 1) = b := y2.1
      have el : ((b :: r').length : Int) = (r'.length : Int) + 1 := by simp
      have w2 := w.2
      unfold s_ch at w2
      rw [if_pos (by
        have e'' : p + (((b :: r').length : Int) + 1) = ln := by omega
        omega), yb] at w2
      exact z w2
  have ho : s_one tp ln p = (c, p + 1, none) := by
    unfold s_one s_sm
    rw [y1] at hx ⊢
    rw [hl, if_neg (by decide), hd, if_neg (by decide), if_neg hs, if_neg hx]
  show s_sk tp ln p < ln ∧ _
  rw [sk_no (by rw [y1]; exact hb), ho]
  exact ⟨by omega, rfl, rfl, h tp ln _ (by show 0 ≤ p + 1; omega) y2 (by show p + 1 + (r.length : Int) = ln; omega)⟩
theorem Lx_ge {r : List Int} {L : List (Int × Int)} (h : Lx r L) : Lx (62 :: 61 :: r) ((259, 0) :: L) := fun tp ln p p0 y e => by
  obtain ⟨y1, y2, y3⟩ := (show tp p = 62 ∧ tp (p + 1) = 61 ∧ BY tp (p + 1 + 1) r from y)
  have e' : p + ((r.length + 1 + 1 : Nat) : Int) = ln := e
  have hc : s_ch tp ln (p + 1) = 61 := by
    unfold s_ch
    rw [if_pos (by omega)]
    exact y2
  have ho : s_one tp ln p = (259, p + 2, none) := by
    unfold s_one s_sm
    rw [y1, hc]
    rfl
  show s_sk tp ln p < ln ∧ _
  rw [sk_no (by rw [y1]; decide), ho]
  exact ⟨by omega, rfl, rfl, h tp ln _ (by show 0 ≤ p + 2; omega) (by rw [show p + 2 = p + 1 + 1 by omega]; exact y3) (by show p + 2 + (r.length : Int) = ln; omega)⟩
theorem nuv_step {v b : Int} (h : 0 ≤ v ∧ v < 1000000) (hb : 48 ≤ b ∧ b ≤ 57) : w64 (w64 (w64 (v * 10) + b) - 48) = v * 10 + (b - 48) := by
  rw [w64_id (x := v * 10) (by omega) (by omega), w64_id (x := v * 10 + b) (by omega) (by omega), w64_id (by omega) (by omega)]
  omega
/-- a number of one to four digits as the law writes it -/
theorem dg_ok {x : Int} (h0 : 0 ≤ x) (h1 : x ≤ 9999) : ∃ b w, dg x = b :: w ∧ s_di b = true ∧ w.all s_di = true ∧ w.length ≤ 3 ∧ nuv 0 (b :: w) = x := by
  have D : ∀ y : Int, 0 ≤ y → y ≤ 9 → s_di (48 + y) = true := fun y a b => by
    unfold s_di
    rw [decide_eq_true (by omega)]
  unfold dg
  by_cases z1 : x < 10
  · rw [if_pos z1]
    refine ⟨_, _, rfl, D x (by omega) (by omega), rfl, by decide, ?_⟩
    show w64 (w64 (w64 (0 * 10) + (48 + x)) - 48) = x
    rw [nuv_step (by omega) (by omega)]
    omega
  rw [if_neg z1]
  by_cases z2 : x < 100
  · rw [if_pos z2]
    refine ⟨_, _, rfl, D _ (by omega) (by omega), ?_, by simp, ?_⟩
    · show (s_di (48 + x % 10) && true) = true
      rw [D _ (by omega) (by omega)]; rfl
    · show w64 (w64 (w64 (w64 (w64 (w64 (0 * 10) + (48 + x / 10)) - 48) * 10) + (48 + x % 10)) - 48) = x
      rw [nuv_step (v := 0) (by omega) (by omega), nuv_step (by omega) (by omega)]
      omega
  rw [if_neg z2]
  by_cases z3 : x < 1000
  · rw [if_pos z3]
    refine ⟨_, _, rfl, D _ (by omega) (by omega), ?_, by simp, ?_⟩
    · show (s_di (48 + x % 100 / 10) && (s_di (48 + x % 100 % 10) && true)) = true
      rw [D _ (by omega) (by omega), D _ (by omega) (by omega)]; rfl
    · show w64 (w64 (w64 (w64 (w64 (w64 (w64 (w64 (w64 (0 * 10) + (48 + x / 100)) - 48) * 10) + (48 + x % 100 / 10)) - 48) * 10) + (48 + x % 100 % 10)) - 48) = x
      rw [nuv_step (v := 0) (by omega) (by omega), nuv_step (b := 48 + x % 100 / 10) (by omega) (by omega), nuv_step (by omega) (by omega)]
      omega
  rw [if_neg z3]
  refine ⟨_, _, rfl, D _ (by omega) (by omega), ?_, by simp, ?_⟩
  · show (s_di (48 + x / 100 % 10) && (s_di (48 + x % 100 / 10) && (s_di (48 + x % 100 % 10) && true))) = true
    rw [D _ (by omega) (by omega), D _ (by omega) (by omega), D _ (by omega) (by omega)]; rfl
  · show w64 (w64 (w64 (w64 (w64 (w64 (w64 (w64 (w64 (w64 (w64 (w64 (0 * 10) + (48 + x / 100 / 10)) - 48) * 10) + (48 + x / 100 % 10)) - 48) * 10) + (48 + x % 100 / 10)) - 48) * 10) + (48 + x % 100 % 10)) - 48) = x
    rw [nuv_step (v := 0) (by omega) (by omega), nuv_step (b := 48 + x / 100 % 10) (by omega) (by omega), nuv_step (b := 48 + x % 100 / 10) (by omega) (by omega), nuv_step (by omega) (by omega)]
    omega
/-- a number's token -/
theorem Lx_d {x c : Int} {r : List Int} {L : List (Int × Int)} (h0 : 0 ≤ x) (h1 : x ≤ 9999) (hc : s_di c = false) (h : Lx (c :: r) L) : Lx (dg x ++ c :: r) ((257, x) :: L) := by
  obtain ⟨b, w, e, d1, d2, d3, d4⟩ := dg_ok h0 h1
  rw [e]
  have := Lx_n d1 d2 (by omega) hc h
  rw [d4] at this
  exact this
/-- a name of the law's: a letter and a digit -/
theorem ky_ok : ∀ i : Nat, i < 7 → s_ky (878 + (i : Int)) 22 0 = 256 ∧ s_ky (619 + (i : Int)) 22 0 = 256 ∧ s_ky (841 + (i : Int)) 22 0 = 256 := by decide +kernel
def nmv (c i : Int) : Int := (c - 96) * 37 + 27 + i
theorem Lx_nm {c0 i c : Int} {r : List Int} {L : List (Int × Int)} (hc0 : c0 = 119 ∨ c0 = 112 ∨ c0 = 118) (h0 : 0 ≤ i) (h1 : i < 7) (hc : isW c = false) (h : Lx (c :: r) L) : Lx (c0 :: (dg i ++ c :: r)) ((256, nmv c0 i) :: L) := by
  have ed : dg i = [48 + i] := if_pos (by omega)
  rw [ed]
  have hd : s_di (48 + i) = true := by
    unfold s_di
    rw [decide_eq_true (by omega)]
  have a := Lx_w (b := c0) (w := [48 + i]) (by rcases hc0 with e | e | e <;> subst e <;> decide) (by
    show (isW (48 + i) && true) = true
    unfold isW
    rw [hd, Bool.or_true]; rfl) (by show (0 : Nat) + 1 ≤ 9; omega) hc h
  have ec : cwv 0 [c0, 48 + i] = nmv c0 i := by
    show w64 (w64 (w64 (w64 (0 * 37) + s_dg37 c0) * 37) + s_dg37 (48 + i)) = _
    have q1 : s_dg37 c0 = c0 - 96 := if_pos (by omega)
    have q2 : s_dg37 (48 + i) = 48 + i - 21 := if_neg (by omega)
    unfold nmv
    rw [q1, q2, show w64 (0 * 37) = 0 from rfl, w64_id (x := 0 + (c0 - 96)) (by omega) (by omega), w64_id (x := (0 + (c0 - 96)) * 37) (by omega) (by omega), w64_id (by omega) (by omega)]
    omega
  rw [ec] at a
  have k := ky_ok i.toNat (by omega)
  rw [Int.toNat_of_nonneg h0] at k
  have ek : s_ky (nmv c0 i) 22 0 = 256 := by
    rcases hc0 with e | e | e <;> subst e
    · rw [show nmv 119 i = 878 + i by unfold nmv; omega]; exact k.1
    · rw [show nmv 112 i = 619 + i by unfold nmv; omega]; exact k.2.1
    · rw [show nmv 118 i = 841 + i by unfold nmv; omega]; exact k.2.2
  rw [ek] at a
  exact a
