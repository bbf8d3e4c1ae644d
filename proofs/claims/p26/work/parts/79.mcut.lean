/-! ===== the reference: a byte of the tape ===== -/
def s_by (tp : Int → Int) (tl i : Int) : Int := if i < tl then tp i else -1