/-! ===== the law: its loop ===== -/
theorem lw_loop {d : Nat} (hd : 100 ≤ d) : ∀ (n : Nat) (i : Int) (h : AH) (pp ss : TT) (tt : Int → List Op) (tl : Int) (tp : Int → Int) (er q dq r : Int) (y5 y6 y7 y8 : AV) (nc ns : Nat), LI h pp ss tt tl tp er q dq r → 0 ≤ i → 0 ≤ am_sl h → am_sl h ≤ 3072 → i ≤ 3080 → am_sl h - i ≤ (n : Int) → ss 0 0 ≤ 1000 + 10 * i → (nc : Int) ≤ 200 + 20 * i → (ns : Int) ≤ 20000 + 240 * i → WP (d + 1) 245 (23, [(4, 0), (2, 0), (2, 53), (2, 87), (0, i), y5, y6, y7, y8], [], h, nc, ns) am_K0
  | n, i, h, pp, ss, tt, tl, tp, er, q, dq, r, y5, y6, y7, y8, nc, ns, g, i0, s0, s1, i1, hn, hy0, hc0, hs0 => by
    refine v245_23 ⟨fun _ => ⟨Or.inr rfl, rfl, rfl⟩, fun z => ?_⟩
    rw [w32_id (by omega) (by omega)] at z
    cases n with
    | zero => exact absurd (show am_sl h - 6 < i by omega) z
    | succ n =>
      have hi : 0 ≤ i ∧ i + 6 ≤ am_sl h ∧ i < 100000 := by omega
      have hc : nc + 200 ≤ 601024 ∧ ns + 2000 ≤ 7293034 := by omega
      have hy : ss 0 0 + 100 < 2000000000 := by omega
      have N : NX d i h (ss 0 0) nc ns := by
        intro h2 p2 s2 t2 l2 tp2 e2 q2 dq2 r2 x5 x6 x7 x8 nc2 ns2 g2 L2 b1 b2 b3
        have L21 := L2.1
        refine v245_1448 ?_
        rw [w32_id (x := i + 6) (by omega) (by omega)]
        exact lw_loop hd n (i + 6) h2 p2 s2 t2 l2 tp2 e2 q2 dq2 r2 x5 x6 x7 x8 nc2 ns2 g2 (by omega) (by omega) (by omega) (by omega) (by omega) (by omega) (by omega) (by omega)
      refine ⟨by omega, ?_⟩
      exact ⟨fun _ => L148 hd g hi hc hy N, fun _ => ⟨fun _ => L252 hd g hi hc hy N, fun _ => ⟨fun _ => L308 hd g hi hc hy N, fun _ => ⟨fun _ => L321 hd g hi hc hy N, fun _ => ⟨fun _ => L334 hd g hi hc hy N, fun _ => ⟨fun _ => L390 hd g hi hc hy N, fun _ => ⟨fun _ => L458 hd g hi hc hy N, fun _ => ⟨fun _ => L526 hd g hi hc hy N, fun _ => ⟨fun _ => L582 hd g hi hc hy N, fun _ => ⟨fun _ => L650 hd g hi hc hy N, fun _ => ⟨fun _ => L725 hd g hi hc hy N, fun _ => ⟨fun _ => L793 hd g hi hc hy N, fun _ => ⟨fun _ => L806 hd g hi hc hy N, fun _ => ⟨fun _ => L909 hd g hi hc hy N, fun _ => ⟨fun _ => L977 hd g hi hc hy N, fun _ => ⟨fun _ => L1033 hd g hi hc hy N, fun _ => ⟨fun _ => L1089 hd g hi hc hy N, fun _ => ⟨fun _ => L1145 hd g hi hc hy N, fun _ => ⟨fun _ => L1201 hd g hi hc hy N, fun _ => ⟨fun _ => L1269 hd g hi hc hy N, fun _ => ⟨fun _ => L1337 hd g hi hc hy N, fun _ => ⟨fun _ => L1393 hd g hi hc hy N, fun _ => ⟨fun _ => L1434 hd g hi hc hy N, fun _ => N h pp ss tt tl tp er q dq r y5 y6 y7 y8 nc ns g LW.rf (by omega) (by omega) (by omega)⟩⟩⟩⟩⟩⟩⟩⟩⟩⟩⟩⟩⟩⟩⟩⟩⟩⟩⟩⟩⟩⟩⟩
