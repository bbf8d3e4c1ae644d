/-! ===== the groups of cells under appends, makings, writes (printed by gen_list2.py) ===== -/
theorem FmM.al {h : AH} {a v n : Int} {t : Nat} {f : Int → Int} : KpO (am_n h) h (am_a h t n f) := ⟨by show am_n h ≤ am_n h + 1; omega, rfl, fun _ => rfl, fun b hb => by
  have e : ¬ b = h.2.2.2.1 := by
    show ¬ b = am_n h
    omega
  exact ⟨if_neg e, if_neg e, fun i => if_neg e⟩⟩
theorem KpO.al {h : AH} {n : Int} {t : Nat} {f : Int → Int} : KpO (am_n h) h (am_a h t n f) := FmM.al (a := 0) (v := 0)
theorem KpO.mk {h : AH} {n m : Int} {t u : Nat} (hn : 0 ≤ n) : KpO (am_n h) h (am_mk2 h t u n m) := ⟨by show am_n h ≤ am_n h + 1 + n; omega, rfl, fun _ => rfl, fun b hb => by
  have e : ¬ b = h.2.2.2.1 := by
    show ¬ b = am_n h
    omega
  have e2 : ¬ (h.2.2.2.1 < b ∧ b ≤ h.2.2.2.1 + n) := by
    show ¬ (am_n h < b ∧ b ≤ am_n h + n)
    omega
  exact ⟨(if_neg e).trans (if_neg e2), (if_neg e).trans (if_neg e2), fun i => (if_neg e).trans (if_neg e2)⟩⟩
theorem KpO.w {h h1 : AH} {n z i x : Int} (k : KpO n h h1) (hz : n ≤ z) : KpO n h (am_w h1 z i x) := ⟨k.n, k.sl, k.sx, fun b hb => ⟨(k.c b hb).1, (k.c b hb).2.1, fun j => by rw [am_m_w, if_neg (by omega)]; exact (k.c b hb).2.2 j⟩⟩
theorem KX.ko {h0 h h2 : AH} {N N2 : Int} (x : KX h0 h N) (k : KpO (am_n h) h h2) (hn : am_n h2 ≤ N2) : KX h0 h2 N2 := by
  have xn := x.n
  have kn := k.n
  exact ⟨fun b hb => ⟨(k.c b (by omega)).1.trans (x.c b hb).1, (k.c b (by omega)).2.1.trans (x.c b hb).2.1, fun i => ((k.c b (by omega)).2.2 i).trans ((x.c b hb).2.2 i)⟩, k.sl.trans x.sl, fun j => (k.sx j).trans (x.sx j), by omega, hn⟩
section
variable {h h2 : AH} {o a v v2 z B C P k V W D i x : Int} {lp : TT} {A : Int → Int} {LK bb : Int → Int → Int}
theorem GO.fv (g : GO h o a v B) (f : FV a v h h2 v2) : GO h2 o a v2 B := g.m f.m g.q.2.1
theorem GO.ko (g : GO h o a v B) (f : KpO (am_n h) h h2) : GO h2 o a v B := g.m f.m g.q.2.1
theorem GO.w (g : GO h o a v B) (hz : ¬ o = z) : GO (am_w h z i x) o a v B := g.m FmM.w hz
theorem GO.wo (g : GO h o a v B) (hi : 4 ≤ i ∧ i ≤ 8) : GO (am_w h o i x) o a v B := by
  have e : ∀ j, ¬ j = i → am_m (am_w h o i x) o j = am_m h o j := fun j hj => by rw [am_m_w, if_neg (fun u => hj u.2)]
  exact ⟨g.q, g.t, (e _ (by omega)).trans g.m0, (e _ (by omega)).trans g.m1, (e _ (by omega)).trans g.m2, (e _ (by omega)).trans g.m3, (e _ (by omega)).trans g.m9⟩
theorem G1.fv (g : G1 h o a v lp C k) (q : KQ h a v o) (f : FV a v h h2 v2) : G1 h2 o a v2 lp C k := g.m' f.m (f.f.2.2.2.2 o q.1.2 q.2.1 q.2.2 _) g.q.1.2.1
theorem G1.ko (g : G1 h o a v lp C k) (q : KQ h a v o) (f : KpO (am_n h) h h2) : G1 h2 o a v lp C k := g.m' f.m ((f.c o q.1.2).2.2 _) g.q.1.2.1
theorem G1.w (g : G1 h o a v lp C k) (ho : ¬ z = o ∨ ¬ i = 4) (hz : ¬ C = z) : G1 (am_w h z i x) o a v lp C k := g.m' FmM.w (by rw [am_m_w, if_neg (fun u => by omega)]) hz
theorem G2.fv (g : G2 h o a v lp C P A k) (q : KQ h a v o) (f : FV a v h h2 v2) : G2 h2 o a v2 lp C P A k := g.m' f.m (f.f.2.2.2.2 o q.1.2 q.2.1 q.2.2 _) g.q.1.2.1 (fun j j0 j1 => (g.m j j0 j1).1.2.1)
theorem G2.ko (g : G2 h o a v lp C P A k) (q : KQ h a v o) (f : KpO (am_n h) h h2) : G2 h2 o a v lp C P A k := g.m' f.m ((f.c o q.1.2).2.2 _) g.q.1.2.1 (fun j j0 j1 => (g.m j j0 j1).1.2.1)
theorem G2.w (g : G2 h o a v lp C P A k) (ho : ¬ z = o ∨ ¬ i = 5) (hz : ¬ P = z) (hA : ∀ j, 0 ≤ j → j < k → ¬ A j = z) : G2 (am_w h z i x) o a v lp C P A k := g.m' FmM.w (by rw [am_m_w, if_neg (fun u => by omega)]) hz hA
theorem G3.fv (g : G3 h o a v lp V) (q : KQ h a v o) (f : FV a v h h2 v2) : G3 h2 o a v2 lp V := g.m' f.m (f.f.2.2.2.2 o q.1.2 q.2.1 q.2.2 _) g.q.2.1 (fun j j0 j1 => (g.m j j0 j1).1.2.1)
theorem G3.ko (g : G3 h o a v lp V) (q : KQ h a v o) (f : KpO (am_n h) h h2) : G3 h2 o a v lp V := g.m' f.m ((f.c o q.1.2).2.2 _) g.q.2.1 (fun j j0 j1 => (g.m j j0 j1).1.2.1)
theorem G3.w (g : G3 h o a v lp V) (ho : ¬ z = o ∨ ¬ i = 6) (hz : ¬ V = z) (hA : ∀ j, 0 ≤ j → j < lp 2 0 → ¬ V + 1 + j = z) : G3 (am_w h z i x) o a v lp V := g.m' FmM.w (by rw [am_m_w, if_neg (fun u => by omega)]) hz hA
theorem G4.fv (g : G4 h o a v lp W LK) (q : KQ h a v o) (f : FV a v h h2 v2) : G4 h2 o a v2 lp W LK := g.m' f.m (f.f.2.2.2.2 o q.1.2 q.2.1 q.2.2 _) g.q.2.1 (fun j j0 j1 => (g.m j j0 j1).1.2.1)
theorem G4.ko (g : G4 h o a v lp W LK) (q : KQ h a v o) (f : KpO (am_n h) h h2) : G4 h2 o a v lp W LK := g.m' f.m ((f.c o q.1.2).2.2 _) g.q.2.1 (fun j j0 j1 => (g.m j j0 j1).1.2.1)
theorem G4.w (g : G4 h o a v lp W LK) (ho : ¬ z = o ∨ ¬ i = 7) (hz : ¬ W = z) (hA : ∀ j, 0 ≤ j → j < lp 2 0 → ¬ W + 1 + j = z) : G4 (am_w h z i x) o a v lp W LK := g.m' FmM.w (by rw [am_m_w, if_neg (fun u => by omega)]) hz hA
theorem G5.fv (g : G5 h o a v lp bb D A k) (q : KQ h a v o) (f : FV a v h h2 v2) : G5 h2 o a v2 lp bb D A k := g.m' f.m (f.f.2.2.2.2 o q.1.2 q.2.1 q.2.2 _) g.q.2.1 (fun j j0 j1 => (g.m j j0 j1).1.2.1)
theorem G5.ko (g : G5 h o a v lp bb D A k) (q : KQ h a v o) (f : KpO (am_n h) h h2) : G5 h2 o a v lp bb D A k := g.m' f.m ((f.c o q.1.2).2.2 _) g.q.2.1 (fun j j0 j1 => (g.m j j0 j1).1.2.1)
theorem G5.w (g : G5 h o a v lp bb D A k) (ho : ¬ z = o ∨ ¬ i = 8) (hz : ¬ D = z) (hA : ∀ j, 0 ≤ j → j < k → ¬ A j = z) : G5 (am_w h z i x) o a v lp bb D A k := g.m' FmM.w (by rw [am_m_w, if_neg (fun u => by omega)]) hz hA
end
