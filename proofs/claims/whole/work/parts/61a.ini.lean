/-! the desk's constructor, run on a closed heap -/
def ini_h0 : jH := .inr (97, []) :: (List.replicate 10 (.inr (98, [])) ++ List.replicate 13 (.inr (99, [])) ++ [.inr (10, [.null, .null, .null, .null, .null, .null, .null, .null, .null, .int 0, .int 0, .int 0])])
def ini_r : Option jO := jrun jT0 24 100000 998 jm_0_init_0 (0, [(0, .ref 24)], [], ini_h0)
def ini_h : jH := match ini_r with
  | some (_, h) => h
  | none => []
set_option maxRecDepth 100000 in
theorem ini_end : (match ini_r with
  | some (.inl none, h) => Nat.beq h.length 64
  | _ => false) = true := by decide +kernel
