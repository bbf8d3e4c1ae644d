/-! ===== one step as a shape, and WP: what is so of every end, from a place on ===== -/
def am_row : List am_E → Nat → Option am_E
  | [], _ => none
  | e :: r, pc => match Nat.beq e.1 pc with
    | true => some e
    | false => am_row r pc
def am_ml (m : Nat) : Nat := (am_inf m).2.2.1
def am_cap (m : Nat) : Nat × Nat := (am_inf m).2.2.2.2.2.2.1
def am_na (m : Nat) : Nat := (am_inf m).2.2.2.2.2.2.2.1
def am_rtt (m : Nat) : Nat := (am_inf m).2.2.2.2.2.2.2.2.1
def am_hd (m : Nat) : List (Nat × Nat × Nat × Nat) := (am_inf m).2.2.2.2.2.2.2.2.2
def am_shr0 (cap : Nat × Nat) (c : AC) : Option am_E → ASh
  | none => am_bad
  | some e => am_ex e.2.2.2.1.1 e.2.2.2.1.2.1 e.2.2.2.1.2.2 e.2.2.2.2.1 cap (am_cap e.2.2.2.1.2.1) (am_ml e.2.2.2.1.2.1) (am_na e.2.2.2.1.2.1) (am_rtt e.2.2.2.1.2.1) c.1 e.2.2.1 c.2.1 c.2.2.1 c.2.2.2.1 c.2.2.2.2.1 c.2.2.2.2.2 e.2.1
def am_shp (m : Nat) (c : AC) : ASh := am_shr0 (am_cap m) c (am_row (am_tab m) c.1)
def am_okx (x : Nat) (P : Prop) : Prop := match x with
  | 0 => P
  | _ + 1 => False
def am_fnd : List (Nat × Nat × Nat × Nat) → Nat → Nat → (Nat → Prop) → Prop
  | [], _, _, _ => False
  | (a, b, q, k) :: r, x, pc, G => match Nat.ble a pc && (Nat.blt pc b && Nat.beq k x) with
    | true => G q
    | false => am_fnd r x pc G
def am_ctc (hs : List (Nat × Nat × Nat × Nat)) (x pc : Nat) (P : Prop) (G : Nat → Prop) : Prop := match x with
  | 0 => P
  | k + 1 => am_fnd hs (k + 1) pc G
def am_ret (hs : List (Nat × Nat × Nat × Nat)) (G : AC → Prop) (pc rt : Nat) (cf : AC) : AK := fun x v h' => match hs with
  | [] => am_okx x (G (cf.1, cf.2.1, am_push rt v cf.2.2.1, h', cf.2.2.2.2))
  | _ :: _ => am_ctc hs x pc (G (cf.1, cf.2.1, am_push rt v cf.2.2.1, h', cf.2.2.2.2)) (fun q => G (q, cf.2.1, [(10, 0)], h', cf.2.2.2.2))
def am_swP (G : AC → Prop) (x : Int) (d : AC) : List (Int × AC) → Prop
  | [] => G d
  | (v, c) :: r => (x = v → G c) ∧ (¬ x = v → am_swP G x d r)
abbrev AX : Type := Nat → Nat → AC → AK → Prop
def am_dn (X : AX) (d m : Nat) (c : AC) (K : AK) : Prop := match d with
  | 0 => False
  | d + 1 => X d m c K
def am_stp (X : AX) (G : AC → Prop) (d : Nat) (hs : List (Nat × Nat × Nat × Nat)) (K : AK) : ASh → Prop
  | .inl c => G c
  | .inr (.inl (p, c)) => p ∧ G c
  | .inr (.inr (.inl (p, a, b))) => (p → G a) ∧ (¬ p → G b)
  | .inr (.inr (.inr (.inl (x, l, e)))) => am_swP G x e l
  | .inr (.inr (.inr (.inr (.inl (m, as, pc, rt, c))))) => am_dn X d m (0, am_ent (am_ml m) as, [], c.2.2.2.1, 0, 0) (am_ret hs G pc rt c)
  | .inr (.inr (.inr (.inr (.inr (.inl (p, m, as, pc, rt, c)))))) => p ∧ am_dn X d m (0, am_ent (am_ml m) as, [], c.2.2.2.1, 0, 0) (am_ret hs G pc rt c)
  | .inr (.inr (.inr (.inr (.inr (.inr (.inl (v, h))))))) => K 0 v h
  | .inr (.inr (.inr (.inr (.inr (.inr (.inr (.inl (p, v, h)))))))) => p ∧ K 0 v h
  | .inr (.inr (.inr (.inr (.inr (.inr (.inr (.inr (.inl (p, k, h))))))))) => p ∧ ∀ n : Int, am_n h ≤ n → K k 0 (am_sn h n)
  | .inr (.inr (.inr (.inr (.inr (.inr (.inr (.inr (.inr _)))))))) => False
def am_le (K K' : AK) : Prop := ∀ x v h, K x v h → K' x v h
def am_Clo (P : AX) : Prop := (∀ d m c K, am_stp P (fun c' => P d m c' K) d (am_hd m) K (am_shp m c) → P d m c K) ∧ ∀ d m c K K', am_le K K' → P d m c K → P d m c K'
def WP : AX := fun d m c K => ∀ P, am_Clo P → P d m c K
theorem am_fnd_mono {hs : List (Nat × Nat × Nat × Nat)} {x pc : Nat} {G G' : Nat → Prop} (h : ∀ q, G q → G' q) (w : am_fnd hs x pc G) : am_fnd hs x pc G' := by
  induction hs with
  | nil => exact w
  | cons e r ih =>
    obtain ⟨a, b, q, k⟩ := e
    unfold am_fnd at w ⊢
    split
    · rename_i hh
      rw [hh] at w
      exact h _ w
    · rename_i hh
      rw [hh] at w
      exact ih w
theorem am_ret_mono {hs : List (Nat × Nat × Nat × Nat)} {G G' : AC → Prop} (h : ∀ c, G c → G' c) (pc rt : Nat) (cf : AC) : am_le (am_ret hs G pc rt cf) (am_ret hs G' pc rt cf) := by
  intro x v h' w
  cases hs with
  | nil =>
    cases x with
    | zero => exact h _ w
    | succ x => exact w
  | cons e r =>
    cases x with
    | zero => exact h _ w
    | succ x => exact am_fnd_mono (fun q => h _) w
theorem am_swP_mono {G G' : AC → Prop} (h : ∀ c, G c → G' c) {x : Int} {d : AC} : ∀ {l : List (Int × AC)}, am_swP G x d l → am_swP G' x d l
  | [], w => h _ w
  | (v, c) :: r, w => ⟨fun e => h _ (w.1 e), fun e => am_swP_mono h (w.2 e)⟩
theorem am_dn_mono {X Y : AX} (hX : ∀ d m c K K', am_le K K' → X d m c K → Y d m c K') {d m : Nat} {c : AC} {K K' : AK} (hK : am_le K K') (w : am_dn X d m c K) : am_dn Y d m c K' := by
  cases d with
  | zero => exact w
  | succ d => exact hX _ _ _ _ _ hK w
theorem am_stp_mono {X Y : AX} {G G' : AC → Prop} (hX : ∀ d m c K K', am_le K K' → X d m c K → Y d m c K') (hG : ∀ c, G c → G' c) {d : Nat} {hs : List (Nat × Nat × Nat × Nat)} {K K' : AK} (hK : am_le K K') : ∀ {sh : ASh}, am_stp X G d hs K sh → am_stp Y G' d hs K' sh
  | .inl c, w => hG c w
  | .inr (.inl (p, c)), w => ⟨w.1, hG c w.2⟩
  | .inr (.inr (.inl (p, a, b))), w => ⟨fun e => hG a (w.1 e), fun e => hG b (w.2 e)⟩
  | .inr (.inr (.inr (.inl (x, l, e)))), w => am_swP_mono hG w
  | .inr (.inr (.inr (.inr (.inl (m, as, pc, rt, c))))), w => am_dn_mono hX (am_ret_mono hG pc rt c) w
  | .inr (.inr (.inr (.inr (.inr (.inl (p, m, as, pc, rt, c)))))), w => ⟨w.1, am_dn_mono hX (am_ret_mono hG pc rt c) w.2⟩
  | .inr (.inr (.inr (.inr (.inr (.inr (.inl (v, h))))))), w => hK _ _ _ w
  | .inr (.inr (.inr (.inr (.inr (.inr (.inr (.inl (p, v, h)))))))), w => ⟨w.1, hK _ _ _ w.2⟩
  | .inr (.inr (.inr (.inr (.inr (.inr (.inr (.inr (.inl (p, k, h))))))))), w => ⟨w.1, fun n hn => hK _ _ _ (w.2 n hn)⟩
  | .inr (.inr (.inr (.inr (.inr (.inr (.inr (.inr (.inr _)))))))), w => w
theorem WP_mono {d m : Nat} {c : AC} {K K' : AK} (h : am_le K K') (w : WP d m c K) : WP d m c K' := fun P hP => hP.2 d m c K K' h (w P hP)
theorem WP_step {d m : Nat} {c : AC} {K : AK} (w : am_stp WP (fun c' => WP d m c' K) d (am_hd m) K (am_shp m c)) : WP d m c K := by
  intro P hP
  refine hP.1 d m c K (am_stp_mono (X := WP) (fun d m c K K' hK z => hP.2 _ _ _ _ _ hK (z P hP)) (fun c z => z P hP) (fun _ _ _ z => z) w)
def am_in : List Nat → Nat → Bool
  | [], _ => false
  | a :: r, x => match Nat.beq a x with
    | true => true
    | false => am_in r x
/-- the same, so many steps on, but not past the places of 'cut' -/
def am_un (cut : List Nat) (d m : Nat) (K : AK) : Nat → AC → Prop
  | 0, c => WP d m c K
  | n + 1, c => match am_in cut c.1 with
    | true => WP d m c K
    | false => am_stp WP (am_un cut d m K n) d (am_hd m) K (am_shp m c)
theorem am_un_ok {cut : List Nat} {d m : Nat} {K : AK} : ∀ (n : Nat) {c : AC}, am_un cut d m K n c → WP d m c K
  | 0, _, w => w
  | n + 1, c, w => by
    unfold am_un at w
    split at w
    · exact w
    · exact WP_step (am_stp_mono (X := WP) (fun _ _ _ _ _ hK z => WP_mono hK z) (fun c z => am_un_ok n z) (fun _ _ _ z => z) w)
theorem am_run {cut : List Nat} {d m : Nat} {K : AK} (n : Nat) {c : AC} (w : am_stp WP (am_un cut d m K n) d (am_hd m) K (am_shp m c)) : WP d m c K :=
  WP_step (am_stp_mono (X := WP) (fun _ _ _ _ _ hK z => WP_mono hK z) (fun _ z => am_un_ok n z) (fun _ _ _ z => z) w)
/-- a call of method m -/
def am_call (d m : Nat) (as : List AV) (h : AH) (K : AK) : Prop := WP d m (0, am_ent (am_ml m) as, [], h, 0, 0) K
theorem am_call_mono {d m : Nat} {as : List AV} {h : AH} {K K' : AK} (hk : am_le K K') (w : am_call d m as h K) : am_call d m as h K' := WP_mono hk w
