/-! ===== the reference as an object: at 53, its state at 71, the one ahead at 79 ===== -/
theorem f0 {h : AH} {v : Int} : Fr 53 34 h (am_w h 53 0 v) := Fr.rf.w (by decide) (by decide)
/-- a test that fails: an error of kind x -/
theorem if1 {p : Prop} [Decidable p] (z : (if p then (1 : Int) else 0) = 0) : ¬ p := fun y => by rw [if_pos y] at z; exact absurd z (by decide)
theorem if0 {p : Prop} [Decidable p] (z : ¬ (if p then (1 : Int) else 0) = 0) : p := Decidable.byContradiction fun y => z (if_neg y)