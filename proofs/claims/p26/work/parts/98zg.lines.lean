/-! ===== the lines that the law writes (printed by gen_lines.py) ===== -/
theorem kv_ward : (s_ky (cwv 0 (119 :: [97, 114, 100])) 22 0, cwv 0 (119 :: [97, 114, 100])) = ((300 : Int), (1167058 : Int)) := by decide +kernel
theorem Lx_ward {c : Int} {r : List Int} {L : List (Int × Int)} (hc : isW c = false) (h : Lx (c :: r) L) : Lx (119 :: 97 :: 114 :: 100 :: c :: r) ((300, 1167058) :: L) := by
  have := Lx_w (b := 119) (w := [97, 114, 100]) (by decide) (by decide) (by decide) hc h
  rw [kv_ward] at this
  exact this
theorem kv_cap : (s_ky (cwv 0 (99 :: [97, 112])) 22 0, cwv 0 (99 :: [97, 112])) = ((301 : Int), (4160 : Int)) := by decide +kernel
theorem Lx_cap {c : Int} {r : List Int} {L : List (Int × Int)} (hc : isW c = false) (h : Lx (c :: r) L) : Lx (99 :: 97 :: 112 :: c :: r) ((301, 4160) :: L) := by
  have := Lx_w (b := 99) (w := [97, 112]) (by decide) (by decide) (by decide) hc h
  rw [kv_cap] at this
  exact this
theorem kv_project : (s_ky (cwv 0 (112 :: [114, 111, 106, 101, 99, 116])) 22 0, cwv 0 (112 :: [114, 111, 106, 101, 99, 116])) = ((302 : Int), (42328439691 : Int)) := by decide +kernel
theorem Lx_project {c : Int} {r : List Int} {L : List (Int × Int)} (hc : isW c = false) (h : Lx (c :: r) L) : Lx (112 :: 114 :: 111 :: 106 :: 101 :: 99 :: 116 :: c :: r) ((302, 42328439691) :: L) := by
  have := Lx_w (b := 112) (w := [114, 111, 106, 101, 99, 116]) (by decide) (by decide) (by decide) hc h
  rw [kv_project] at this
  exact this
theorem kv_cost : (s_ky (cwv 0 (99 :: [111, 115, 116])) 22 0, cwv 0 (99 :: [111, 115, 116])) = ((303 : Int), (173217 : Int)) := by decide +kernel
theorem Lx_cost {c : Int} {r : List Int} {L : List (Int × Int)} (hc : isW c = false) (h : Lx (c :: r) L) : Lx (99 :: 111 :: 115 :: 116 :: c :: r) ((303, 173217) :: L) := by
  have := Lx_w (b := 99) (w := [111, 115, 116]) (by decide) (by decide) (by decide) hc h
  rw [kv_cost] at this
  exact this
theorem kv_in : (s_ky (cwv 0 (105 :: [110])) 22 0, cwv 0 (105 :: [110])) = ((304 : Int), (347 : Int)) := by decide +kernel
theorem Lx_in {c : Int} {r : List Int} {L : List (Int × Int)} (hc : isW c = false) (h : Lx (c :: r) L) : Lx (105 :: 110 :: c :: r) ((304, 347) :: L) := by
  have := Lx_w (b := 105) (w := [110]) (by decide) (by decide) (by decide) hc h
  rw [kv_in] at this
  exact this
theorem kv_grows : (s_ky (cwv 0 (103 :: [114, 111, 119, 115])) 22 0, cwv 0 (103 :: [114, 111, 119, 115])) = ((305 : Int), (14052286 : Int)) := by decide +kernel
theorem Lx_grows {c : Int} {r : List Int} {L : List (Int × Int)} (hc : isW c = false) (h : Lx (c :: r) L) : Lx (103 :: 114 :: 111 :: 119 :: 115 :: c :: r) ((305, 14052286) :: L) := by
  have := Lx_w (b := 103) (w := [114, 111, 119, 115]) (by decide) (by decide) (by decide) hc h
  rw [kv_grows] at this
  exact this
theorem kv_voter : (s_ky (cwv 0 (118 :: [111, 116, 101, 114])) 22 0, cwv 0 (118 :: [111, 116, 101, 114])) = ((306 : Int), (42018920 : Int)) := by decide +kernel
theorem Lx_voter {c : Int} {r : List Int} {L : List (Int × Int)} (hc : isW c = false) (h : Lx (c :: r) L) : Lx (118 :: 111 :: 116 :: 101 :: 114 :: c :: r) ((306, 42018920) :: L) := by
  have := Lx_w (b := 118) (w := [111, 116, 101, 114]) (by decide) (by decide) (by decide) hc h
  rw [kv_voter] at this
  exact this
theorem kv_likes : (s_ky (cwv 0 (108 :: [105, 107, 101, 115])) 22 0, cwv 0 (108 :: [105, 107, 101, 115])) = ((307 : Int), (22961072 : Int)) := by decide +kernel
theorem Lx_likes {c : Int} {r : List Int} {L : List (Int × Int)} (hc : isW c = false) (h : Lx (c :: r) L) : Lx (108 :: 105 :: 107 :: 101 :: 115 :: c :: r) ((307, 22961072) :: L) := by
  have := Lx_w (b := 108) (w := [105, 107, 101, 115]) (by decide) (by decide) (by decide) hc h
  rw [kv_likes] at this
  exact this
theorem kv_budget : (s_ky (cwv 0 (98 :: [117, 100, 103, 101, 116])) 22 0, cwv 0 (98 :: [117, 100, 103, 101, 116])) = ((308 : Int), (178257695 : Int)) := by decide +kernel
theorem Lx_budget {c : Int} {r : List Int} {L : List (Int × Int)} (hc : isW c = false) (h : Lx (c :: r) L) : Lx (98 :: 117 :: 100 :: 103 :: 101 :: 116 :: c :: r) ((308, 178257695) :: L) := by
  have := Lx_w (b := 98) (w := [117, 100, 103, 101, 116]) (by decide) (by decide) (by decide) hc h
  rw [kv_budget] at this
  exact this
theorem kv_ban : (s_ky (cwv 0 (98 :: [97, 110])) 22 0, cwv 0 (98 :: [97, 110])) = ((309 : Int), (2789 : Int)) := by decide +kernel
theorem Lx_ban {c : Int} {r : List Int} {L : List (Int × Int)} (hc : isW c = false) (h : Lx (c :: r) L) : Lx (98 :: 97 :: 110 :: c :: r) ((309, 2789) :: L) := by
  have := Lx_w (b := 98) (w := [97, 110]) (by decide) (by decide) (by decide) hc h
  rw [kv_ban] at this
  exact this
theorem kv_when : (s_ky (cwv 0 (119 :: [104, 101, 110])) 22 0, cwv 0 (119 :: [104, 101, 110])) = ((310 : Int), (1176170 : Int)) := by decide +kernel
theorem Lx_when {c : Int} {r : List Int} {L : List (Int × Int)} (hc : isW c = false) (h : Lx (c :: r) L) : Lx (119 :: 104 :: 101 :: 110 :: c :: r) ((310, 1176170) :: L) := by
  have := Lx_w (b := 119) (w := [104, 101, 110]) (by decide) (by decide) (by decide) hc h
  rw [kv_when] at this
  exact this
theorem kv_year : (s_ky (cwv 0 (121 :: [101, 97, 114])) 22 0, cwv 0 (121 :: [101, 97, 114])) = ((311 : Int), (1273225 : Int)) := by decide +kernel
theorem Lx_year {c : Int} {r : List Int} {L : List (Int × Int)} (hc : isW c = false) (h : Lx (c :: r) L) : Lx (121 :: 101 :: 97 :: 114 :: c :: r) ((311, 1273225) :: L) := by
  have := Lx_w (b := 121) (w := [101, 97, 114]) (by decide) (by decide) (by decide) hc h
  rw [kv_year] at this
  exact this
theorem kv_pot : (s_ky (cwv 0 (112 :: [111, 116])) 22 0, cwv 0 (112 :: [111, 116])) = ((312 : Int), (22479 : Int)) := by decide +kernel
theorem Lx_pot {c : Int} {r : List Int} {L : List (Int × Int)} (hc : isW c = false) (h : Lx (c :: r) L) : Lx (112 :: 111 :: 116 :: c :: r) ((312, 22479) :: L) := by
  have := Lx_w (b := 112) (w := [111, 116]) (by decide) (by decide) (by decide) hc h
  rw [kv_pot] at this
  exact this
theorem kv_purse : (s_ky (cwv 0 (112 :: [117, 114, 115, 101])) 22 0, cwv 0 (112 :: [117, 114, 115, 101])) = ((313 : Int), (31075639 : Int)) := by decide +kernel
theorem Lx_purse {c : Int} {r : List Int} {L : List (Int × Int)} (hc : isW c = false) (h : Lx (c :: r) L) : Lx (112 :: 117 :: 114 :: 115 :: 101 :: c :: r) ((313, 31075639) :: L) := by
  have := Lx_w (b := 112) (w := [117, 114, 115, 101]) (by decide) (by decide) (by decide) hc h
  rw [kv_purse] at this
  exact this
theorem kv_fans : (s_ky (cwv 0 (102 :: [97, 110, 115])) 22 0, cwv 0 (102 :: [97, 110, 115])) = ((314 : Int), (305824 : Int)) := by decide +kernel
theorem Lx_fans {c : Int} {r : List Int} {L : List (Int × Int)} (hc : isW c = false) (h : Lx (c :: r) L) : Lx (102 :: 97 :: 110 :: 115 :: c :: r) ((314, 305824) :: L) := by
  have := Lx_w (b := 102) (w := [97, 110, 115]) (by decide) (by decide) (by decide) hc h
  rw [kv_fans] at this
  exact this
theorem kv_built : (s_ky (cwv 0 (98 :: [117, 105, 108, 116])) 22 0, cwv 0 (98 :: [117, 105, 108, 116])) = ((315 : Int), (4824820 : Int)) := by decide +kernel
theorem Lx_built {c : Int} {r : List Int} {L : List (Int × Int)} (hc : isW c = false) (h : Lx (c :: r) L) : Lx (98 :: 117 :: 105 :: 108 :: 116 :: c :: r) ((315, 4824820) :: L) := by
  have := Lx_w (b := 98) (w := [117, 105, 108, 116]) (by decide) (by decide) (by decide) hc h
  rw [kv_built] at this
  exact this
theorem kv_pleased : (s_ky (cwv 0 (112 :: [108, 101, 97, 115, 101, 100])) 22 0, cwv 0 (112 :: [108, 101, 97, 115, 101, 100])) = ((316 : Int), (41893197686 : Int)) := by decide +kernel
theorem Lx_pleased {c : Int} {r : List Int} {L : List (Int × Int)} (hc : isW c = false) (h : Lx (c :: r) L) : Lx (112 :: 108 :: 101 :: 97 :: 115 :: 101 :: 100 :: c :: r) ((316, 41893197686) :: L) := by
  have := Lx_w (b := 112) (w := [108, 101, 97, 115, 101, 100]) (by decide) (by decide) (by decide) hc h
  rw [kv_pleased] at this
  exact this
theorem kv_not : (s_ky (cwv 0 (110 :: [111, 116])) 22 0, cwv 0 (110 :: [111, 116])) = ((317 : Int), (19741 : Int)) := by decide +kernel
theorem Lx_not {c : Int} {r : List Int} {L : List (Int × Int)} (hc : isW c = false) (h : Lx (c :: r) L) : Lx (110 :: 111 :: 116 :: c :: r) ((317, 19741) :: L) := by
  have := Lx_w (b := 110) (w := [111, 116]) (by decide) (by decide) (by decide) hc h
  rw [kv_not] at this
  exact this
theorem kv_and : (s_ky (cwv 0 (97 :: [110, 100])) 22 0, cwv 0 (97 :: [110, 100])) = ((318 : Int), (1891 : Int)) := by decide +kernel
theorem Lx_and {c : Int} {r : List Int} {L : List (Int × Int)} (hc : isW c = false) (h : Lx (c :: r) L) : Lx (97 :: 110 :: 100 :: c :: r) ((318, 1891) :: L) := by
  have := Lx_w (b := 97) (w := [110, 100]) (by decide) (by decide) (by decide) hc h
  rw [kv_and] at this
  exact this
theorem kv_or : (s_ky (cwv 0 (111 :: [114])) 22 0, cwv 0 (111 :: [114])) = ((319 : Int), (573 : Int)) := by decide +kernel
theorem Lx_or {c : Int} {r : List Int} {L : List (Int × Int)} (hc : isW c = false) (h : Lx (c :: r) L) : Lx (111 :: 114 :: c :: r) ((319, 573) :: L) := by
  have := Lx_w (b := 111) (w := [114]) (by decide) (by decide) (by decide) hc h
  rw [kv_or] at this
  exact this
theorem kv_min : (s_ky (cwv 0 (109 :: [105, 110])) 22 0, cwv 0 (109 :: [105, 110])) = ((320 : Int), (18144 : Int)) := by decide +kernel
theorem Lx_min {c : Int} {r : List Int} {L : List (Int × Int)} (hc : isW c = false) (h : Lx (c :: r) L) : Lx (109 :: 105 :: 110 :: c :: r) ((320, 18144) :: L) := by
  have := Lx_w (b := 109) (w := [105, 110]) (by decide) (by decide) (by decide) hc h
  rw [kv_min] at this
  exact this
theorem Lx_semi {r : List Int} {L : List (Int × Int)} (h : Lx r L) : Lx (59 :: r) ((59, 0) :: L) := Lx_y (by decide) (by decide) (by decide) (by decide) (Or.inl (by decide)) h
theorem Lx_star {r : List Int} {L : List (Int × Int)} (h : Lx r L) : Lx (42 :: r) ((42, 0) :: L) := Lx_y (by decide) (by decide) (by decide) (by decide) (Or.inl (by decide)) h
theorem Lx_slash {r : List Int} {L : List (Int × Int)} (h : Lx r L) : Lx (47 :: r) ((47, 0) :: L) := Lx_y (by decide) (by decide) (by decide) (by decide) (Or.inl (by decide)) h
theorem Lx_minus {r : List Int} {L : List (Int × Int)} (h : Lx r L) : Lx (45 :: r) ((45, 0) :: L) := Lx_y (by decide) (by decide) (by decide) (by decide) (Or.inl (by decide)) h
theorem Lx_lpar {r : List Int} {L : List (Int × Int)} (h : Lx r L) : Lx (40 :: r) ((40, 0) :: L) := Lx_y (by decide) (by decide) (by decide) (by decide) (Or.inl (by decide)) h
theorem Lx_rpar {r : List Int} {L : List (Int × Int)} (h : Lx r L) : Lx (41 :: r) ((41, 0) :: L) := Lx_y (by decide) (by decide) (by decide) (by decide) (Or.inl (by decide)) h
theorem Lx_comma {r : List Int} {L : List (Int × Int)} (h : Lx r L) : Lx (44 :: r) ((44, 0) :: L) := Lx_y (by decide) (by decide) (by decide) (by decide) (Or.inl (by decide)) h
theorem Lx_lbra {r : List Int} {L : List (Int × Int)} (h : Lx r L) : Lx (91 :: r) ((91, 0) :: L) := Lx_y (by decide) (by decide) (by decide) (by decide) (Or.inl (by decide)) h
theorem Lx_rbra {r : List Int} {L : List (Int × Int)} (h : Lx r L) : Lx (93 :: r) ((93, 0) :: L) := Lx_y (by decide) (by decide) (by decide) (by decide) (Or.inl (by decide)) h
theorem Lx_eq {r : List Int} {L : List (Int × Int)} (h : Lx r L) : Lx (61 :: r) ((61, 0) :: L) := Lx_y (by decide) (by decide) (by decide) (by decide) (Or.inl (by decide)) h
theorem Lx_lt {b : Int} {r : List Int} {L : List (Int × Int)} (hb : ¬ b = 61) (h : Lx (b :: r) L) : Lx (60 :: b :: r) ((60, 0) :: L) := Lx_y (by decide) (by decide) (by decide) (by decide) (Or.inr ⟨b, r, rfl, hb⟩) h
theorem Lx_gt {b : Int} {r : List Int} {L : List (Int × Int)} (hb : ¬ b = 61) (h : Lx (b :: r) L) : Lx (62 :: b :: r) ((62, 0) :: L) := Lx_y (by decide) (by decide) (by decide) (by decide) (Or.inr ⟨b, r, rfl, hb⟩) h
theorem Lx_s {r : List Int} {L : List (Int × Int)} (h : Lx r L) : Lx (32 :: r) L := Lx_sp (Or.inl rfl) h
/-- a line: its bytes with the ; (and a line end), its tokens without, their roles, its bans -/
abbrev LnT : Type := List Int × List (Int × Int) × List Int × (Nat → List (Nat × List Op))
def LNok (l : LnT) : Prop := (∀ r L, Lx r L → Lx (l.1 ++ r) (l.2.1 ++ (59, 0) :: L)) ∧ (∀ (kd : Nat → Int) (i : Nat), KD kd i (l.2.1.map Prod.fst ++ [59]) → gLine kd i = .inr (i + l.2.1.length, l.2.2.2 i, l.2.2.1)) ∧ (l.2.2.1.length = l.2.1.length) ∧ (∃ k v r, l.2.1 = (k, v) :: r ∧ ¬ k = 260)
theorem LNok.lx {l : LnT} (x : LNok l) : ∀ r L, Lx r L → Lx (l.1 ++ r) (l.2.1 ++ (59, 0) :: L) := x.1
theorem LNok.gr {l : LnT} (x : LNok l) : ∀ (kd : Nat → Int) (i : Nat), KD kd i (l.2.1.map Prod.fst ++ [59]) → gLine kd i = .inr (i + l.2.1.length, l.2.2.2 i, l.2.2.1) := x.2.1
theorem LNok.ln {l : LnT} (x : LNok l) : l.2.2.1.length = l.2.1.length := x.2.2.1
theorem LNok.hd {l : LnT} (x : LNok l) : ∃ k v r, l.2.1 = (k, v) :: r ∧ ¬ k = 260 := x.2.2.2
def lW (w c : Int) : LnT := ([119, 97, 114, 100, 32, 119] ++ dg w ++ [32, 99, 97, 112, 32] ++ dg c ++ [59], [(300, 1167058), (256, nmv 119 w), (301, 4160), (257, c)], [0, 1, 0, 5], fun _ => [])
def lU (b : Int) : LnT := ([98, 117, 100, 103, 101, 116, 32] ++ dg b ++ [59, 10], [(308, 178257695), (257, b)], [0, 8], fun _ => [])
def lP (p c w g : Int) : LnT := ([112, 114, 111, 106, 101, 99, 116, 32, 112] ++ dg p ++ [32, 99, 111, 115, 116, 32] ++ dg c ++ [32, 105, 110, 32, 119] ++ dg w ++ [32, 103, 114, 111, 119, 115, 32] ++ dg g ++ [59], [(302, 42328439691), (256, nmv 112 p), (303, 173217), (257, c), (304, 347), (256, nmv 119 w), (305, 14052286), (257, g)], [0, 2, 0, 6, 0, 9, 0, 7], fun _ => [])
/-- liked projects behind the first one; all of them -/
def lkB1 : List Int → List Int
  | [] => []
  | p :: r => [32, 112] ++ dg p ++ lkB1 r
def lkB : List Int → List Int
  | [] => []
  | p :: r => [32, 108, 105, 107, 101, 115, 32, 112] ++ dg p ++ lkB1 r
def lkT1 : List Int → List (Int × Int)
  | [] => []
  | p :: r => (256, nmv 112 p) :: lkT1 r
def lkT : List Int → List (Int × Int)
  | [] => []
  | p :: r => (307, 22961072) :: (256, nmv 112 p) :: lkT1 r
def lkR1 : List Int → List Int
  | [] => []
  | _ :: r => 10 :: lkR1 r
def lkR : List Int → List Int
  | [] => []
  | _ :: r => 0 :: 10 :: lkR1 r
def lV (v : Int) (L : List Int) : LnT := ([118, 111, 116, 101, 114, 32, 118] ++ dg v ++ lkB L ++ [59], (306, 42018920) :: (256, nmv 118 v) :: lkT L, 0 :: 3 :: lkR L, fun _ => [])
def tsB (pp : TT) (b : Int → Int) : List Int :=
  if b 1 = 0 then [121, 101, 97, 114, 47] ++ dg (b 2 % 5 + 1) ++ [42] ++ dg (b 2 % 5 + 1) ++ [61, 121, 101, 97, 114] else
  if b 1 = 1 then [112, 111, 116, 60] ++ dg (b 3) else
  if b 1 = 2 then [98, 117, 105, 108, 116, 32, 112] ++ dg (b 4 % pp 1 0) else
  if b 1 = 3 then [108, 105, 107, 101, 115, 32, 118] ++ dg (b 4 % pp 2 0) ++ [32, 112] ++ dg (b 4 % pp 1 0) else
  if b 1 = 4 then [99, 111, 115, 116, 32, 112] ++ dg (b 4 % pp 1 0) ++ [62, 53, 42] ++ dg (b 3) else
  if b 1 = 5 then [110, 111, 116, 32, 102, 97, 110, 115, 32, 112] ++ dg (b 4 % pp 1 0) ++ [62, 61] ++ dg (b 2 % 7) else
  if b 1 = 6 then [112, 117, 114, 115, 101, 32, 118] ++ dg (b 4 % pp 2 0) ++ [62] ++ dg (b 3) ++ [32, 111, 114, 32, 112, 108, 101, 97, 115, 101, 100, 32, 118] ++ dg (b 4 % pp 2 0) ++ [62, 61] ++ dg (b 2 % 5) else
  [109, 105, 110, 40, 112, 111, 116, 44] ++ dg (b 2) ++ [41, 45, 121, 101, 97, 114, 60, 48, 32, 97, 110, 100, 32, 91, 121, 101, 97, 114, 62] ++ dg (b 2) ++ [32, 111, 114, 32, 110, 111, 116, 32, 98, 117, 105, 108, 116, 32, 112] ++ dg (b 4 % pp 1 0) ++ [93]
def tsT (pp : TT) (b : Int → Int) : List (Int × Int) :=
  if b 1 = 0 then [(311, 1273225), (47, 0), (257, (b 2 % 5 + 1)), (42, 0), (257, (b 2 % 5 + 1)), (61, 0), (311, 1273225)] else
  if b 1 = 1 then [(312, 22479), (60, 0), (257, (b 3))] else
  if b 1 = 2 then [(315, 4824820), (256, nmv 112 (b 4 % pp 1 0))] else
  if b 1 = 3 then [(307, 22961072), (256, nmv 118 (b 4 % pp 2 0)), (256, nmv 112 (b 4 % pp 1 0))] else
  if b 1 = 4 then [(303, 173217), (256, nmv 112 (b 4 % pp 1 0)), (62, 0), (257, 5), (42, 0), (257, (b 3))] else
  if b 1 = 5 then [(317, 19741), (314, 305824), (256, nmv 112 (b 4 % pp 1 0)), (259, 0), (257, (b 2 % 7))] else
  if b 1 = 6 then [(313, 31075639), (256, nmv 118 (b 4 % pp 2 0)), (62, 0), (257, (b 3)), (319, 573), (316, 41893197686), (256, nmv 118 (b 4 % pp 2 0)), (259, 0), (257, (b 2 % 5))] else
  [(320, 18144), (40, 0), (312, 22479), (44, 0), (257, (b 2)), (41, 0), (45, 0), (311, 1273225), (60, 0), (257, 0), (318, 1891), (91, 0), (311, 1273225), (62, 0), (257, (b 2)), (319, 573), (317, 19741), (315, 4824820), (256, nmv 112 (b 4 % pp 1 0)), (93, 0)]
def tsR (b : Int → Int) : List Int :=
  if b 1 = 0 then [0, 0, 14, 0, 14, 0, 0] else
  if b 1 = 1 then [0, 0, 14] else
  if b 1 = 2 then [0, 12] else
  if b 1 = 3 then [0, 13, 12] else
  if b 1 = 4 then [0, 12, 0, 14, 0, 14] else
  if b 1 = 5 then [0, 0, 12, 0, 14] else
  if b 1 = 6 then [0, 13, 0, 14, 0, 0, 13, 0, 14] else
  [0, 0, 0, 0, 14, 0, 0, 0, 0, 14, 0, 0, 0, 0, 14, 0, 0, 0, 12, 0]
def tsO (b : Int → Int) (i : Nat) : List Op :=
  if b 1 = 0 then [(2, 0, 0), (1, ((i + 1 + 1 : Nat) : Int), 0), (15, 0, 0), (1, ((i + 1 + 1 + 1 + 1 : Nat) : Int), 0), (14, 0, 0), (2, 0, 0), (20, 0, 0)] else
  if b 1 = 1 then [(3, 0, 0), (1, ((i + 1 + 1 : Nat) : Int), 0), (18, 0, 0)] else
  if b 1 = 2 then [(8, ((i + 1 : Nat) : Int), 0)] else
  if b 1 = 3 then [(11, ((i + 1 : Nat) : Int), ((i + 1 + 1 : Nat) : Int))] else
  if b 1 = 4 then [(4, ((i + 1 : Nat) : Int), 0), (1, ((i + 1 + 1 + 1 : Nat) : Int), 0), (1, ((i + 1 + 1 + 1 + 1 + 1 : Nat) : Int), 0), (14, 0, 0), (19, 0, 0)] else
  if b 1 = 5 then [(5, ((i + 1 + 1 : Nat) : Int), 0), (1, ((i + 1 + 1 + 1 + 1 : Nat) : Int), 0), (22, 0, 0), (10, 0, 0)] else
  if b 1 = 6 then [(6, ((i + 1 : Nat) : Int), 0), (1, ((i + 1 + 1 + 1 : Nat) : Int), 0), (19, 0, 0), (7, ((i + 1 + 1 + 1 + 1 + 1 + 1 : Nat) : Int), 0), (1, ((i + 1 + 1 + 1 + 1 + 1 + 1 + 1 + 1 : Nat) : Int), 0), (22, 0, 0), (24, 0, 0)] else
  [(3, 0, 0), (1, ((i + 1 + 1 + 1 + 1 : Nat) : Int), 0), (16, 0, 0), (2, 0, 0), (13, 0, 0), (1, ((i + 1 + 1 + 1 + 1 + 1 + 1 + 1 + 1 + 1 : Nat) : Int), 0), (18, 0, 0), (2, 0, 0), (1, ((i + 1 + 1 + 1 + 1 + 1 + 1 + 1 + 1 + 1 + 1 + 1 + 1 + 1 + 1 : Nat) : Int), 0), (19, 0, 0), (8, ((i + 1 + 1 + 1 + 1 + 1 + 1 + 1 + 1 + 1 + 1 + 1 + 1 + 1 + 1 + 1 + 1 + 1 + 1 : Nat) : Int), 0), (10, 0, 0), (24, 0, 0), (23, 0, 0)]
def lB (pp : TT) (b : Int → Int) : LnT := ([98, 97, 110, 32, 112] ++ dg (b 0) ++ [32, 119, 104, 101, 110, 32] ++ tsB pp b ++ [59], (309, 2789) :: (256, nmv 112 (b 0)) :: (310, 1176170) :: tsT pp b, 4 :: 11 :: 0 :: tsR b, fun i => [(i, tsO b (i + 1 + 1 + 1))])
theorem lW_ok {w c : Int} (h0 : 0 ≤ w ∧ w < 7) (h1 : 0 ≤ c ∧ c ≤ 9999) : LNok (lW w c) := by
  refine ⟨fun r L h => ?_, fun kd i h => ?_, rfl, ⟨_, _, _, rfl, by decide⟩⟩
  · have e : (lW w c).1 ++ r = 119 :: 97 :: 114 :: 100 :: 32 :: 119 :: (dg w ++ 32 :: 99 :: 97 :: 112 :: 32 :: (dg c ++ 59 :: r)) := by simp [lW]
    rw [e]
    exact Lx_ward (by decide) (Lx_s (Lx_nm (Or.inl rfl) h0.1 h0.2 (by decide) (Lx_s (Lx_cap (by decide) (Lx_s (Lx_d h1.1 h1.2 (by decide) (Lx_semi h)))))))
  · obtain ⟨k0, k1, k2, k3, k4, -⟩ := h
    have e : gLine kd i = gWard kd i := by unfold gLine; rw [k0]; rfl
    rw [e]
    exact bndL_ok (tkL_ok k0) (bndL_ok (f := fun i => bndL (tkL kd 301 0 i) (tkL kd 257 5)) (tkL_ok k1) (bndL_ok (tkL_ok k2) (tkL_ok k3)))
theorem lU_ok {b : Int} (h1 : 0 ≤ b ∧ b ≤ 9999) : LNok (lU b) := by
  refine ⟨fun r L h => ?_, fun kd i h => ?_, rfl, ⟨_, _, _, rfl, by decide⟩⟩
  · have e : (lU b).1 ++ r = 98 :: 117 :: 100 :: 103 :: 101 :: 116 :: 32 :: (dg b ++ 59 :: 10 :: r) := by simp [lU]
    rw [e]
    exact Lx_budget (by decide) (Lx_s (Lx_d h1.1 h1.2 (by decide) (Lx_semi (Lx_sp (Or.inr rfl) h))))
  · obtain ⟨k0, k1, k2, -⟩ := h
    have e : gLine kd i = gBud kd i := by unfold gLine; rw [k0]; rfl
    rw [e]
    exact bndL_ok (tkL_ok k0) (tkL_ok k1)
theorem lP_ok {p c w g : Int} (h0 : 0 ≤ p ∧ p < 7) (h1 : 0 ≤ c ∧ c ≤ 9999) (h2 : 0 ≤ w ∧ w < 7) (h3 : 0 ≤ g ∧ g ≤ 9999) : LNok (lP p c w g) := by
  refine ⟨fun r L h => ?_, fun kd i h => ?_, rfl, ⟨_, _, _, rfl, by decide⟩⟩
  · have e : (lP p c w g).1 ++ r = 112 :: 114 :: 111 :: 106 :: 101 :: 99 :: 116 :: 32 :: 112 :: (dg p ++ 32 :: 99 :: 111 :: 115 :: 116 :: 32 :: (dg c ++ 32 :: 105 :: 110 :: 32 :: 119 :: (dg w ++ 32 :: 103 :: 114 :: 111 :: 119 :: 115 :: 32 :: (dg g ++ 59 :: r)))) := by simp [lP]
    rw [e]
    exact Lx_project (by decide) (Lx_s (Lx_nm (Or.inr (Or.inl rfl)) h0.1 h0.2 (by decide) (Lx_s (Lx_cost (by decide) (Lx_s (Lx_d h1.1 h1.2 (by decide) (Lx_s (Lx_in (by decide) (Lx_s (Lx_nm (Or.inl rfl) h2.1 h2.2 (by decide) (Lx_s (Lx_grows (by decide) (Lx_s (Lx_d h3.1 h3.2 (by decide) (Lx_semi h)))))))))))))))
  · obtain ⟨k0, k1, k2, k3, k4, k5, k6, k7, k8, -⟩ := h
    have e : gLine kd i = gProj kd i := by unfold gLine; rw [k0]; rfl
    rw [e]
    exact bndL_ok (tkL_ok k0) (bndL_ok (f := fun i => bndL (tkL kd 303 0 i) fun i => bndL (tkL kd 257 6 i) fun i => bndL (tkL kd 304 0 i) fun i => bndL (tkL kd 256 9 i) fun i => bndL (tkL kd 305 0 i) (tkL kd 257 7)) (tkL_ok k1) (bndL_ok (f := fun i => bndL (tkL kd 257 6 i) fun i => bndL (tkL kd 304 0 i) fun i => bndL (tkL kd 256 9 i) fun i => bndL (tkL kd 305 0 i) (tkL kd 257 7)) (tkL_ok k2) (bndL_ok (f := fun i => bndL (tkL kd 304 0 i) fun i => bndL (tkL kd 256 9 i) fun i => bndL (tkL kd 305 0 i) (tkL kd 257 7)) (tkL_ok k3) (bndL_ok (f := fun i => bndL (tkL kd 256 9 i) fun i => bndL (tkL kd 305 0 i) (tkL kd 257 7)) (tkL_ok k4) (bndL_ok (f := fun i => bndL (tkL kd 305 0 i) (tkL kd 257 7)) (tkL_ok k5) (bndL_ok (tkL_ok k6) (tkL_ok k7)))))))
theorem lk1_lex {r : List Int} {Q : List (Int × Int)} (h : Lx (59 :: r) Q) : ∀ {L : List Int}, (∀ p ∈ L, 0 ≤ p ∧ p < 7) → Lx (lkB1 L ++ 59 :: r) (lkT1 L ++ Q)
  | [], _ => h
  | p :: L, hL => by
    have hp := hL p (List.mem_cons_self ..)
    have ih := lk1_lex h (L := L) (fun q hq => hL q (List.mem_cons_of_mem _ hq))
    have e : lkB1 (p :: L) ++ 59 :: r = 32 :: 112 :: (dg p ++ (lkB1 L ++ 59 :: r)) := by simp [lkB1]
    rw [e]
    refine Lx_s ?_
    cases L with
    | nil => exact Lx_nm (Or.inr (Or.inl rfl)) hp.1 hp.2 (by decide) ih
    | cons q L =>
      have e2 : lkB1 (q :: L) ++ 59 :: r = 32 :: ((112 :: dg q) ++ lkB1 L ++ 59 :: r) := by simp [lkB1]
      rw [e2] at ih ⊢
      exact Lx_nm (Or.inr (Or.inl rfl)) hp.1 hp.2 (by decide) ih
theorem KD_app {kd : Nat → Int} : ∀ {a b : List Int} {i : Nat}, KD kd i (a ++ b) → KD kd i a ∧ KD kd (i + a.length) b
  | [], b, i, h => ⟨trivial, h⟩
  | x :: a, b, i, h => by
    have h' : kd i = x ∧ KD kd (i + 1) (a ++ b) := h
    obtain ⟨i1, i2⟩ := KD_app h'.2
    refine ⟨⟨h'.1, i1⟩, ?_⟩
    rw [show i + (x :: a).length = i + 1 + a.length by simp; omega]
    exact i2
theorem lk1_gr {kd : Nat → Int} {x : Int} (hx : ¬ x = 256) : ∀ {L : List Int} {i n : Nat}, L.length ≤ n → KD kd i ((lkT1 L).map Prod.fst ++ [x]) → gLk kd n i = .inr (i + (lkT1 L).length, [], lkR1 L)
  | [], i, 0, _, _ => rfl
  | [], i, n + 1, _, h => by
    have k : kd i = x := h.1
    show (if kd i = 256 then _ else _) = _
    rw [if_neg (by rw [k]; exact hx)]
    rfl
  | p :: L, i, 0, hn, _ => absurd hn (by simp)
  | p :: L, i, n + 1, hn, h => by
    have k : kd i = 256 := h.1
    have ih := lk1_gr hx (L := L) (i := i + 1) (n := n) (by simpa using hn) h.2
    show (if kd i = 256 then _ else _) = _
    rw [if_pos k, bndL_ok (tkL_ok k) ih]
    show (Sum.inr (i + 1 + (lkT1 L).length, [], 10 :: lkR1 L) : LR) = .inr (i + ((lkT1 L).length + 1), [], 10 :: lkR1 L)
    rw [show i + 1 + (lkT1 L).length = i + ((lkT1 L).length + 1) by omega]
theorem lk1_len : ∀ {L : List Int}, (lkR1 L).length = (lkT1 L).length
  | [] => rfl
  | _ :: L => by
    show (lkR1 L).length + 1 = (lkT1 L).length + 1
    rw [lk1_len]
theorem lV_ok {v : Int} {L : List Int} (h0 : 0 ≤ v ∧ v < 7) (hL : ∀ p ∈ L, 0 ≤ p ∧ p < 7) (hn : L.length ≤ 7) : LNok (lV v L) := by
  cases L with
  | nil =>
    refine ⟨fun r L h => ?_, fun kd i h => ?_, rfl, ⟨_, _, _, rfl, by decide⟩⟩
    · have e : (lV v []).1 ++ r = 118 :: 111 :: 116 :: 101 :: 114 :: 32 :: 118 :: (dg v ++ 59 :: r) := by simp [lV, lkB]
      rw [e]
      exact Lx_voter (by decide) (Lx_s (Lx_nm (Or.inr (Or.inr rfl)) h0.1 h0.2 (by decide) (Lx_semi h)))
    · obtain ⟨k0, k1, k2, -⟩ := h
      have e : gLine kd i = gVot kd i := by unfold gLine; rw [k0]; rfl
      rw [e]
      have e2 : gVot2 kd (i + 1 + 1) = .inr (i + 1 + 1, [], []) := by unfold gVot2; rw [k2]; rfl
      exact bndL_ok (tkL_ok k0) (bndL_ok (tkL_ok k1) e2)
  | cons p L =>
    have hp := hL p (List.mem_cons_self ..)
    have hL' : ∀ q ∈ L, 0 ≤ q ∧ q < 7 := fun q hq => hL q (List.mem_cons_of_mem _ hq)
    refine ⟨fun r Q h => ?_, fun kd i h => ?_, ?_, ⟨_, _, _, rfl, by decide⟩⟩
    · have e : (lV v (p :: L)).1 ++ r = 118 :: 111 :: 116 :: 101 :: 114 :: 32 :: 118 :: (dg v ++ 32 :: 108 :: 105 :: 107 :: 101 :: 115 :: 32 :: 112 :: (dg p ++ (lkB1 L ++ 59 :: r))) := by simp [lV, lkB]
      rw [e]
      refine Lx_voter (by decide) (Lx_s (Lx_nm (Or.inr (Or.inr rfl)) h0.1 h0.2 (by decide) (Lx_s (Lx_likes (by decide) (Lx_s ?_)))))
      have ih := lk1_lex (Lx_semi h) hL'
      cases L with
      | nil => exact Lx_nm (Or.inr (Or.inl rfl)) hp.1 hp.2 (by decide) ih
      | cons q L =>
        have e2 : lkB1 (q :: L) ++ 59 :: r = 32 :: ((112 :: dg q) ++ lkB1 L ++ 59 :: r) := by simp [lkB1]
        rw [e2] at ih ⊢
        exact Lx_nm (Or.inr (Or.inl rfl)) hp.1 hp.2 (by decide) ih
    · obtain ⟨k0, k1, k2, k3, k4⟩ := h
      have e : gLine kd i = gVot kd i := by unfold gLine; rw [k0]; rfl
      rw [e]
      have g1 := lk1_gr (x := 59) (by decide) (L := L) (n := 400) (by simp at hn; omega) k4
      have e2 : gVot2 kd (i + 1 + 1) = .inr (i + 1 + 1 + 1 + 1 + (lkT1 L).length, [], 0 :: 10 :: lkR1 L) := by
        unfold gVot2
        rw [if_pos k2]
        exact bndL_ok (tkL_ok k2) (bndL_ok (tkL_ok k3) g1)
      have e3 := bndL_ok (f := fun i => bndL (tkL kd 256 3 i) (gVot2 kd)) (tkL_ok (ro := 0) k0) (bndL_ok (f := gVot2 kd) (tkL_ok (ro := 3) k1) e2)
      have e4 : gVot kd i = .inr (i + 1 + 1 + 1 + 1 + (lkT1 L).length, [], 0 :: 3 :: 0 :: 10 :: lkR1 L) := e3
      rw [e4]
      show (Sum.inr (_, [], 0 :: 3 :: 0 :: 10 :: lkR1 L) : LR) = .inr (i + ((lkT1 L).length + 1 + 1 + 1 + 1), [], 0 :: 3 :: 0 :: 10 :: lkR1 L)
      rw [show i + 1 + 1 + 1 + 1 + (lkT1 L).length = i + ((lkT1 L).length + 1 + 1 + 1 + 1) by omega]
    · show (lkR1 L).length + 1 + 1 + 1 + 1 = (lkT1 L).length + 1 + 1 + 1 + 1
      rw [lk1_len]
theorem dg_hd {x : Int} (h0 : 0 ≤ x) (h1 : x ≤ 9999) : ∃ b w, dg x = b :: w ∧ ¬ b = 61 := by
  obtain ⟨b, w, e, d1, -⟩ := dg_ok h0 h1
  unfold s_di at d1
  simp only [decide_eq_true_eq] at d1
  exact ⟨b, w, e, by omega⟩
theorem Lx_gtd {x : Int} {r : List Int} {L : List (Int × Int)} (hx : 0 ≤ x ∧ x ≤ 9999) (h : Lx (dg x ++ r) L) : Lx (62 :: (dg x ++ r)) ((62, 0) :: L) := by
  obtain ⟨b, w, e, n⟩ := dg_hd hx.1 hx.2
  rw [e] at h ⊢
  exact Lx_gt n h
theorem Lx_ltd {x : Int} {r : List Int} {L : List (Int × Int)} (hx : 0 ≤ x ∧ x ≤ 9999) (h : Lx (dg x ++ r) L) : Lx (60 :: (dg x ++ r)) ((60, 0) :: L) := by
  obtain ⟨b, w, e, n⟩ := dg_hd hx.1 hx.2
  rw [e] at h ⊢
  exact Lx_lt n h
theorem Lx_five {r : List Int} {L : List (Int × Int)} (h : Lx (42 :: r) L) : Lx (53 :: 42 :: r) ((257, 5) :: L) := Lx_d (x := 5) (by decide) (by decide) (by decide) h
theorem Lx_zero {r : List Int} {L : List (Int × Int)} (h : Lx (32 :: r) L) : Lx (48 :: 32 :: r) ((257, 0) :: L) := Lx_d (x := 0) (by decide) (by decide) (by decide) h
theorem lB_ok {pp : TT} {b : Int → Int} (hN : 1 ≤ pp 1 0 ∧ pp 1 0 ≤ 7 ∧ 1 ≤ pp 2 0 ∧ pp 2 0 ≤ 7) (hp : 0 ≤ b 0 ∧ b 0 < 7) (br : (0 ≤ b 1 ∧ b 1 < 8) ∧ (0 ≤ b 2 ∧ b 2 < 20) ∧ (0 ≤ b 3 ∧ b 3 < 90) ∧ 0 ≤ b 4 ∧ b 4 < 42) : LNok (lB pp b) := by
  have q0 := Int.emod_nonneg (b 4) (show pp 1 0 ≠ 0 by omega)
  have q1 := Int.emod_lt_of_pos (b 4) (show 0 < pp 1 0 by omega)
  have v0 := Int.emod_nonneg (b 4) (show pp 2 0 ≠ 0 by omega)
  have v1 := Int.emod_lt_of_pos (b 4) (show 0 < pp 2 0 by omega)
  have hq : 0 ≤ b 4 % pp 1 0 ∧ b 4 % pp 1 0 < 7 := ⟨q0, by omega⟩
  have hv : 0 ≤ b 4 % pp 2 0 ∧ b 4 % pp 2 0 < 7 := ⟨v0, by omega⟩
  have hm : 0 ≤ b 3 ∧ b 3 ≤ 9999 := by omega
  have hn : 0 ≤ b 2 ∧ b 2 ≤ 9999 := by omega
  have hN : 0 ≤ b 2 % 5 + 1 ∧ b 2 % 5 + 1 ≤ 9999 := by omega
  have h5 : 0 ≤ b 2 % 5 ∧ b 2 % 5 ≤ 9999 := by omega
  have h7 : 0 ≤ b 2 % 7 ∧ b 2 % 7 ≤ 9999 := by omega
  have key : ∀ (B : List Int) (T : List (Int × Int)) (R : List Int) (O : Nat → List Op), tsB pp b = B → tsT pp b = T → tsR b = R → (∀ i, tsO b i = O i) → (∀ r L, Lx (59 :: r) L → Lx (B ++ 59 :: r) (T ++ L)) → (∀ (kd : Nat → Int) (i : Nat), KD kd i (T.map Prod.fst ++ [59]) → gT kd 8 i = .inr (i + T.length, O i, R)) → R.length = T.length → LNok (lB pp b) := by
    intro B T R O eB eT eR eO hl hg hlen
    refine ⟨fun r L h => ?_, fun kd i h => ?_, ?_, ⟨_, _, _, rfl, by decide⟩⟩
    · have e : (lB pp b).1 ++ r = 98 :: 97 :: 110 :: 32 :: 112 :: (dg (b 0) ++ 32 :: 119 :: 104 :: 101 :: 110 :: 32 :: (B ++ 59 :: r)) := by simp [lB, eB]
      have e2 : (lB pp b).2.1 = (309, 2789) :: (256, nmv 112 (b 0)) :: (310, 1176170) :: T := by simp [lB, eT]
      rw [e, e2]
      exact Lx_ban (by decide) (Lx_s (Lx_nm (Or.inr (Or.inl rfl)) hp.1 hp.2 (by decide) (Lx_s (Lx_when (by decide) (Lx_s (hl r _ (Lx_semi h)))))))
    · have e2 : (lB pp b).2.1 = (309, 2789) :: (256, nmv 112 (b 0)) :: (310, 1176170) :: T := by simp [lB, eT]
      have e3 : (lB pp b).2.2.1 = 4 :: 11 :: 0 :: R := by simp [lB, eR]
      have e4 : (lB pp b).2.2.2 i = [(i, O (i + 1 + 1 + 1))] := by simp [lB, eO]
      rw [e2] at h ⊢
      rw [e3, e4]
      obtain ⟨k0, k1, k2, k3⟩ := h
      have e : gLine kd i = l1 i (gBan kd i) := by unfold gLine; rw [k0]; rfl
      have g1 := hg kd _ k3
      have g2 := bnd_ok (f := gT kd 8) (tk_ok (ro := 0) k2) g1
      have g3 := bnd_ok (f := fun i => bnd (tk kd 310 0 i) (gT kd 8)) (tk_ok (ro := 11) k1) g2
      have g4 : gBan kd i = _ := bnd_ok (tk_ok (ro := 4) k0) g3
      rw [e, g4]
      show (Sum.inr (i + 1 + 1 + 1 + T.length, [(i, O (i + 1 + 1 + 1))], 4 :: 11 :: 0 :: R) : LR) = .inr (i + (T.length + 1 + 1 + 1), [(i, O (i + 1 + 1 + 1))], 4 :: 11 :: 0 :: R)
      rw [show i + 1 + 1 + 1 + T.length = i + (T.length + 1 + 1 + 1) by omega]
    · have e2 : (lB pp b).2.1 = (309, 2789) :: (256, nmv 112 (b 0)) :: (310, 1176170) :: T := by simp [lB, eT]
      have e3 : (lB pp b).2.2.1 = 4 :: 11 :: 0 :: R := by simp [lB, eR]
      rw [e2, e3]
      show R.length + 1 + 1 + 1 = T.length + 1 + 1 + 1
      rw [hlen]
  by_cases z0 : b 1 = 0
  · refine key _ _ _ _ (by unfold tsB; rw [if_pos z0]) (by unfold tsT; rw [if_pos z0]) (by unfold tsR; rw [if_pos z0]) (fun i => (by unfold tsO; rw [if_pos z0])) (fun r L h => ?_) (fun kd i h => test0 h) rfl
    have e : ([121, 101, 97, 114, 47] ++ dg (b 2 % 5 + 1) ++ [42] ++ dg (b 2 % 5 + 1) ++ [61, 121, 101, 97, 114]) ++ 59 :: r = 121 :: 101 :: 97 :: 114 :: 47 :: (dg (b 2 % 5 + 1) ++ 42 :: (dg (b 2 % 5 + 1) ++ 61 :: 121 :: 101 :: 97 :: 114 :: 59 :: r)) := by simp
    rw [e]
    exact Lx_year (by decide) (Lx_slash (Lx_d hN.1 hN.2 (by decide) (Lx_star (Lx_d hN.1 hN.2 (by decide) (Lx_eq (Lx_year (by decide) (h)))))))
  by_cases z1 : b 1 = 1
  · refine key _ _ _ _ (by unfold tsB; rw [if_neg z0, if_pos z1]) (by unfold tsT; rw [if_neg z0, if_pos z1]) (by unfold tsR; rw [if_neg z0, if_pos z1]) (fun i => (by unfold tsO; rw [if_neg z0, if_pos z1])) (fun r L h => ?_) (fun kd i h => test1 h) rfl
    have e : ([112, 111, 116, 60] ++ dg (b 3)) ++ 59 :: r = 112 :: 111 :: 116 :: 60 :: (dg (b 3) ++ 59 :: r) := by simp
    rw [e]
    exact Lx_pot (by decide) (Lx_ltd hm (Lx_d hm.1 hm.2 (by decide) (h)))
  by_cases z2 : b 1 = 2
  · refine key _ _ _ _ (by unfold tsB; rw [if_neg z0, if_neg z1, if_pos z2]) (by unfold tsT; rw [if_neg z0, if_neg z1, if_pos z2]) (by unfold tsR; rw [if_neg z0, if_neg z1, if_pos z2]) (fun i => (by unfold tsO; rw [if_neg z0, if_neg z1, if_pos z2])) (fun r L h => ?_) (fun kd i h => test2 h) rfl
    have e : ([98, 117, 105, 108, 116, 32, 112] ++ dg (b 4 % pp 1 0)) ++ 59 :: r = 98 :: 117 :: 105 :: 108 :: 116 :: 32 :: 112 :: (dg (b 4 % pp 1 0) ++ 59 :: r) := by simp
    rw [e]
    exact Lx_built (by decide) (Lx_s (Lx_nm (Or.inr (Or.inl rfl)) hq.1 hq.2 (by decide) (h)))
  by_cases z3 : b 1 = 3
  · refine key _ _ _ _ (by unfold tsB; rw [if_neg z0, if_neg z1, if_neg z2, if_pos z3]) (by unfold tsT; rw [if_neg z0, if_neg z1, if_neg z2, if_pos z3]) (by unfold tsR; rw [if_neg z0, if_neg z1, if_neg z2, if_pos z3]) (fun i => (by unfold tsO; rw [if_neg z0, if_neg z1, if_neg z2, if_pos z3])) (fun r L h => ?_) (fun kd i h => test3 h) rfl
    have e : ([108, 105, 107, 101, 115, 32, 118] ++ dg (b 4 % pp 2 0) ++ [32, 112] ++ dg (b 4 % pp 1 0)) ++ 59 :: r = 108 :: 105 :: 107 :: 101 :: 115 :: 32 :: 118 :: (dg (b 4 % pp 2 0) ++ 32 :: 112 :: (dg (b 4 % pp 1 0) ++ 59 :: r)) := by simp
    rw [e]
    exact Lx_likes (by decide) (Lx_s (Lx_nm (Or.inr (Or.inr rfl)) hv.1 hv.2 (by decide) (Lx_s (Lx_nm (Or.inr (Or.inl rfl)) hq.1 hq.2 (by decide) (h)))))
  by_cases z4 : b 1 = 4
  · refine key _ _ _ _ (by unfold tsB; rw [if_neg z0, if_neg z1, if_neg z2, if_neg z3, if_pos z4]) (by unfold tsT; rw [if_neg z0, if_neg z1, if_neg z2, if_neg z3, if_pos z4]) (by unfold tsR; rw [if_neg z0, if_neg z1, if_neg z2, if_neg z3, if_pos z4]) (fun i => (by unfold tsO; rw [if_neg z0, if_neg z1, if_neg z2, if_neg z3, if_pos z4])) (fun r L h => ?_) (fun kd i h => test4 h) rfl
    have e : ([99, 111, 115, 116, 32, 112] ++ dg (b 4 % pp 1 0) ++ [62, 53, 42] ++ dg (b 3)) ++ 59 :: r = 99 :: 111 :: 115 :: 116 :: 32 :: 112 :: (dg (b 4 % pp 1 0) ++ 62 :: 53 :: 42 :: (dg (b 3) ++ 59 :: r)) := by simp
    rw [e]
    exact Lx_cost (by decide) (Lx_s (Lx_nm (Or.inr (Or.inl rfl)) hq.1 hq.2 (by decide) (Lx_gt (by decide) (Lx_five (Lx_star (Lx_d hm.1 hm.2 (by decide) (h)))))))
  by_cases z5 : b 1 = 5
  · refine key _ _ _ _ (by unfold tsB; rw [if_neg z0, if_neg z1, if_neg z2, if_neg z3, if_neg z4, if_pos z5]) (by unfold tsT; rw [if_neg z0, if_neg z1, if_neg z2, if_neg z3, if_neg z4, if_pos z5]) (by unfold tsR; rw [if_neg z0, if_neg z1, if_neg z2, if_neg z3, if_neg z4, if_pos z5]) (fun i => (by unfold tsO; rw [if_neg z0, if_neg z1, if_neg z2, if_neg z3, if_neg z4, if_pos z5])) (fun r L h => ?_) (fun kd i h => test5 h) rfl
    have e : ([110, 111, 116, 32, 102, 97, 110, 115, 32, 112] ++ dg (b 4 % pp 1 0) ++ [62, 61] ++ dg (b 2 % 7)) ++ 59 :: r = 110 :: 111 :: 116 :: 32 :: 102 :: 97 :: 110 :: 115 :: 32 :: 112 :: (dg (b 4 % pp 1 0) ++ 62 :: 61 :: (dg (b 2 % 7) ++ 59 :: r)) := by simp
    rw [e]
    exact Lx_not (by decide) (Lx_s (Lx_fans (by decide) (Lx_s (Lx_nm (Or.inr (Or.inl rfl)) hq.1 hq.2 (by decide) (Lx_ge (Lx_d h7.1 h7.2 (by decide) (h)))))))
  by_cases z6 : b 1 = 6
  · refine key _ _ _ _ (by unfold tsB; rw [if_neg z0, if_neg z1, if_neg z2, if_neg z3, if_neg z4, if_neg z5, if_pos z6]) (by unfold tsT; rw [if_neg z0, if_neg z1, if_neg z2, if_neg z3, if_neg z4, if_neg z5, if_pos z6]) (by unfold tsR; rw [if_neg z0, if_neg z1, if_neg z2, if_neg z3, if_neg z4, if_neg z5, if_pos z6]) (fun i => (by unfold tsO; rw [if_neg z0, if_neg z1, if_neg z2, if_neg z3, if_neg z4, if_neg z5, if_pos z6])) (fun r L h => ?_) (fun kd i h => test6 h) rfl
    have e : ([112, 117, 114, 115, 101, 32, 118] ++ dg (b 4 % pp 2 0) ++ [62] ++ dg (b 3) ++ [32, 111, 114, 32, 112, 108, 101, 97, 115, 101, 100, 32, 118] ++ dg (b 4 % pp 2 0) ++ [62, 61] ++ dg (b 2 % 5)) ++ 59 :: r = 112 :: 117 :: 114 :: 115 :: 101 :: 32 :: 118 :: (dg (b 4 % pp 2 0) ++ 62 :: (dg (b 3) ++ 32 :: 111 :: 114 :: 32 :: 112 :: 108 :: 101 :: 97 :: 115 :: 101 :: 100 :: 32 :: 118 :: (dg (b 4 % pp 2 0) ++ 62 :: 61 :: (dg (b 2 % 5) ++ 59 :: r)))) := by simp
    rw [e]
    exact Lx_purse (by decide) (Lx_s (Lx_nm (Or.inr (Or.inr rfl)) hv.1 hv.2 (by decide) (Lx_gtd hm (Lx_d hm.1 hm.2 (by decide) (Lx_s (Lx_or (by decide) (Lx_s (Lx_pleased (by decide) (Lx_s (Lx_nm (Or.inr (Or.inr rfl)) hv.1 hv.2 (by decide) (Lx_ge (Lx_d h5.1 h5.2 (by decide) (h)))))))))))))
  refine key _ _ _ _ (by unfold tsB; rw [if_neg z0, if_neg z1, if_neg z2, if_neg z3, if_neg z4, if_neg z5, if_neg z6]) (by unfold tsT; rw [if_neg z0, if_neg z1, if_neg z2, if_neg z3, if_neg z4, if_neg z5, if_neg z6]) (by unfold tsR; rw [if_neg z0, if_neg z1, if_neg z2, if_neg z3, if_neg z4, if_neg z5, if_neg z6]) (fun i => (by unfold tsO; rw [if_neg z0, if_neg z1, if_neg z2, if_neg z3, if_neg z4, if_neg z5, if_neg z6])) (fun r L h => ?_) (fun kd i h => test7 h) rfl
  have e : ([109, 105, 110, 40, 112, 111, 116, 44] ++ dg (b 2) ++ [41, 45, 121, 101, 97, 114, 60, 48, 32, 97, 110, 100, 32, 91, 121, 101, 97, 114, 62] ++ dg (b 2) ++ [32, 111, 114, 32, 110, 111, 116, 32, 98, 117, 105, 108, 116, 32, 112] ++ dg (b 4 % pp 1 0) ++ [93]) ++ 59 :: r = 109 :: 105 :: 110 :: 40 :: 112 :: 111 :: 116 :: 44 :: (dg (b 2) ++ 41 :: 45 :: 121 :: 101 :: 97 :: 114 :: 60 :: 48 :: 32 :: 97 :: 110 :: 100 :: 32 :: 91 :: 121 :: 101 :: 97 :: 114 :: 62 :: (dg (b 2) ++ 32 :: 111 :: 114 :: 32 :: 110 :: 111 :: 116 :: 32 :: 98 :: 117 :: 105 :: 108 :: 116 :: 32 :: 112 :: (dg (b 4 % pp 1 0) ++ 93 :: 59 :: r))) := by simp
  rw [e]
  exact Lx_min (by decide) (Lx_lpar (Lx_pot (by decide) (Lx_comma (Lx_d hn.1 hn.2 (by decide) (Lx_rpar (Lx_minus (Lx_year (by decide) (Lx_lt (by decide) (Lx_zero (Lx_s (Lx_and (by decide) (Lx_s (Lx_lbra (Lx_year (by decide) (Lx_gtd hn (Lx_d hn.1 hn.2 (by decide) (Lx_s (Lx_or (by decide) (Lx_s (Lx_not (by decide) (Lx_s (Lx_built (by decide) (Lx_s (Lx_nm (Or.inr (Or.inl rfl)) hq.1 hq.2 (by decide) (Lx_rbra (h))))))))))))))))))))))))))
