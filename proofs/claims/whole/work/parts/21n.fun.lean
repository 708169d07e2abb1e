def M_L_law (n : Nat) (L : Nat) (xs : Nat → Int32) (h : AH) : Option (Int32 × AH) :=
  L_L_law_18 n L xs n 0 h
set_option maxRecDepth 10000 in
set_option maxHeartbeats 20000000 in
theorem E_L_law (n : Nat) (L : Nat) (xs : Nat → Int32) (h : AH) (vR : Int32) (hR : AH) (hM : M_L_law n L xs h = some (vR, hR)) : Ev (some (L, xs)) mr_L_law (16, [(2, .ref 75), (1, .ref 0), (0, .ref 206)], [], h) (some (.int vR)) hR := by
  unfold M_L_law at hM
  refine Ev.steps (B := (18, [(3, .int 0), (2, .ref 75), (1, .ref 0), (0, .ref 206)], [], h)) 2 rfl ?_
  refine Ev.lv (lv := [(0, .ref 206), (1, .ref 0), (2, .ref 75), (3, .int 0)]) ⟨rfl, rfl, rfl, rfl, trivial⟩ rfl rfl ?_
  exact E_L_L_law_18 n L xs vR hR n 0 h hM
