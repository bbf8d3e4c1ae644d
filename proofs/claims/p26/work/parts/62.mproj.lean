/-! ===== the reference: what is told of projects, and in all ===== -/
def s_c0 (pp ss : TT) (t : Int) : Int := if t = 0 then ss 0 0 else if t = 1 then pp 0 0 else if t = 2 then pp 1 0 else if t = 3 then pp 2 0 else if t = 4 then pp 3 0 else ss 1 0
def s_ct (pp ss : TT) (tl t : Int) : Int := if 6 ≤ t ∧ t ≤ 10 then s_tot pp ss t else if t < 6 then s_c0 pp ss t else tl