def x_s0 (base : Nat) : PH := (fun _ => 0, fun _ _ => 0, fun _ _ => none, fun _ _ => 0, fun _ _ => none, fun _ => 0, base, 0)
