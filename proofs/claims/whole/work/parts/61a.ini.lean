/-! the desk's constructor, run on a closed heap -/
def ini_h0 : jH := .inr (97, []) :: (List.replicate 10 (.inr (98, [])) ++ List.replicate 13 (.inr (99, [])) ++ [.inr (10, [.null, .null, .null, .null, .null, .null, .null, .null, .null, .int 0, .int 0, .int 0])])
def ini_r : Option jO := jrun jT0 24 100000 999 jm_0_init_0 (0, [(0, .ref 24)], [], ini_h0)
