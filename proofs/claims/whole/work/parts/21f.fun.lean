def M_X9_hottestOf (n : Nat) (a1 : Int32) (h : AH) : Option (Int32 × AH) :=
  am_v (M_X9_runsTold n h) fun h1 =>
  L_X9_hottestOf_8 n n a1 0 1 h1
set_option maxRecDepth 10000 in
theorem E_X9_hottestOf_75 (n : Nat) (a1 : Int32) (h : AH) (vR : Int32) (hR : AH) (hM : M_X9_hottestOf n a1 h = some (vR, hR)) : Ev none mr_X9_hottestOf (0, [(0, .ref 75), (1, .int a1)], [], h) (some (.int vR)) hR := by
  unfold M_X9_hottestOf at hM
  refine Ev.steps (B := (1, [(0, .ref 75), (1, .int a1)], [.ref 75], h)) 1 rfl ?_
  obtain ⟨h1, e1, hM⟩ := am_vS hM
  refine Ev.call (q := (mr_X9_runsTold, [.ref 75], [])) rfl (E_X9_runsTold_75 n h h1 e1) ?_
  refine Ev.steps (B := (8, [(3, .int 1), (2, .int 0), (0, .ref 75), (1, .int a1)], [], h1)) 4 rfl ?_
  refine Ev.lv (lv := [(0, .ref 75), (1, .int a1), (2, .int 0), (3, .int 1)]) ⟨rfl, rfl, rfl, rfl, trivial⟩ rfl rfl ?_
  exact E_L_X9_hottestOf_8 n vR hR n a1 0 1 h1 hM
def M_X9_hottest (n : Nat) (a1 : Int32) (h : AH) : Option (Int32 × AH) :=
  if (M_X9_isTwo a1) = 0 then
    some ((-2), h)
  else
    am_b (M_X9_hottestOf n a1 h) fun v2 h1 =>
    some (v2, h1)
set_option maxRecDepth 10000 in
theorem E_X9_hottest_75 (n : Nat) (a1 : Int32) (h : AH) (vR : Int32) (hR : AH) (hM : M_X9_hottest n a1 h = some (vR, hR)) : Ev none mr_X9_hottest (0, [(0, .ref 75), (1, .int a1)], [], h) (some (.int vR)) hR := by
  unfold M_X9_hottest at hM
  refine Ev.steps (B := (1, [(0, .ref 75), (1, .int a1)], [.int a1], h)) 1 rfl ?_
  refine Ev.call (q := (mr_X9_isTwo, [.int a1], [])) rfl (E_X9_isTwo a1 h) ?_
  refine Ev.br (b := decide ((M_X9_isTwo a1) = 0)) rfl (fun c1 => ?_) (fun c1 => ?_)
  · have c1 := of_decide_eq_true c1
    rw [if_pos c1] at hM
    refine Ev.steps (B := (17, [(0, .ref 75), (1, .int a1)], [.int (-2)], h)) 1 rfl ?_
    obtain ⟨rfl, rfl⟩ := am_sp hM
    exact Ev.ret rfl
  · have c1 := of_decide_eq_false c1
    rw [if_neg c1] at hM
    refine Ev.steps (B := (9, [(0, .ref 75), (1, .int a1)], [.int a1, .ref 75], h)) 2 rfl ?_
    obtain ⟨v2, h1, e2, hM⟩ := am_bS hM
    refine Ev.call (q := (mr_X9_hottestOf, [.ref 75, .int a1], [])) rfl (E_X9_hottestOf_75 n a1 h v2 h1 e2) ?_
    refine Ev.steps (B := (17, [(0, .ref 75), (1, .int a1)], [.int v2], h1)) 1 rfl ?_
    obtain ⟨rfl, rfl⟩ := am_sp hM
    exact Ev.ret rfl
def L_X8_waited_27 (n : Nat) : Nat → Int32 → Int32 → Int32 → AH → Option (Int32 × AH)
  | 0, _, _, _, _ => none
  | m + 1, x1, x3, x4, h =>
    if 24 ≤ x4 then
      some (x3, h)
    else
      am_o (M_X2_stateOf 22 x4 x1 h) fun v1 =>
      if v1 = 1 then
        L_X8_waited_27 n m x1 (x3 + 1) (x4 + 1) h
      else
        L_X8_waited_27 n m x1 x3 (x4 + 1) h
set_option maxRecDepth 10000 in
theorem E_L_X8_waited_27 (n : Nat) (vR : Int32) (hR : AH) : ∀ (m : Nat) (x1 : Int32) (x3 : Int32) (x4 : Int32) (h : AH), L_X8_waited_27 n m x1 x3 x4 h = some (vR, hR) → Ev none mr_X8_waited (27, [(1, .int x1), (2, .ref 22), (3, .int x3), (4, .int x4)], [], h) (some (.int vR)) hR := by
  intro m
  induction m with
  | zero =>
    intro x1 x3 x4 h hM
    exact (am_no hM).elim
  | succ m ih =>
    intro x1 x3 x4 h hM
    rw [L_X8_waited_27] at hM
    refine Ev.steps (B := (31, [(1, .int x1), (2, .ref 22), (3, .int x3), (4, .int x4)], [.int 24, .int x4], h)) 2 rfl ?_
    refine Ev.br (b := decide (24 ≤ x4)) rfl (fun c1 => ?_) (fun c1 => ?_)
    · have c1 := of_decide_eq_true c1
      rw [if_pos c1] at hM
      refine Ev.steps (B := (55, [(1, .int x1), (2, .ref 22), (3, .int x3), (4, .int x4)], [.int x3], h)) 1 rfl ?_
      obtain ⟨rfl, rfl⟩ := am_sp hM
      exact Ev.ret rfl
    · have c1 := of_decide_eq_false c1
      rw [if_neg c1] at hM
      refine Ev.steps (B := (38, [(1, .int x1), (2, .ref 22), (3, .int x3), (4, .int x4)], [.int x1, .int x4, .ref 22], h)) 3 rfl ?_
      obtain ⟨v1, e2, hM⟩ := am_oS hM
      refine Ev.call (q := (mr_X2_stateOf, [.ref 22, .int x4, .int x1], [])) rfl (E_X2_stateOf_22 x4 x1 h v1 e2) ?_
      refine Ev.steps (B := (42, [(1, .int x1), (2, .ref 22), (3, .int x3), (4, .int x4)], [.int 1, .int v1], h)) 1 rfl ?_
      refine Ev.br (b := decide (¬ v1 = 1)) rfl (fun c3 => ?_) (fun c3 => ?_)
      · have c3 := of_decide_eq_true c3
        rw [if_neg c3] at hM
        refine Ev.steps (B := (27, [(4, .int (x4 + 1)), (1, .int x1), (2, .ref 22), (3, .int x3)], [], h)) 2 rfl ?_
        refine Ev.lv (lv := [(1, .int x1), (2, .ref 22), (3, .int x3), (4, .int (x4 + 1))]) ⟨rfl, rfl, rfl, rfl, trivial⟩ rfl rfl ?_
        exact ih x1 x3 (x4 + 1) h hM
      · have c3 := Decidable.of_not_not (of_decide_eq_false c3)
        rw [if_pos c3] at hM
        refine Ev.steps (B := (27, [(4, .int (x4 + 1)), (3, .int (x3 + 1)), (1, .int x1), (2, .ref 22)], [], h)) 3 rfl ?_
        refine Ev.lv (lv := [(1, .int x1), (2, .ref 22), (3, .int (x3 + 1)), (4, .int (x4 + 1))]) ⟨rfl, rfl, rfl, rfl, trivial⟩ rfl rfl ?_
        exact ih x1 (x3 + 1) (x4 + 1) h hM
def M_X8_waited (n : Nat) (a1 : Int32) (h : AH) : Option (Int32 × AH) :=
  if (M_X1_has 8 a1 h) = 0 then
    some ((-2), h)
  else
    am_v (M_X8_toldEvening n h) fun h1 =>
    L_X8_waited_27 n n a1 0 0 h1
set_option maxRecDepth 10000 in
theorem E_X8_waited_0 (n : Nat) (a1 : Int32) (h : AH) (vR : Int32) (hR : AH) (hM : M_X8_waited n a1 h = some (vR, hR)) : Ev none mr_X8_waited (0, [(0, .ref 0), (1, .int a1)], [], h) (some (.int vR)) hR := by
  unfold M_X8_waited at hM
  refine Ev.steps (B := (8, [(0, .ref 0), (1, .int a1)], [.int a1, .ref 8], h)) 4 rfl ?_
  refine Ev.call (q := (mr_X1_has, [.ref 8, .int a1], [])) rfl (E_X1_has_8 a1 h) ?_
  refine Ev.br (b := decide (¬ (M_X1_has 8 a1 h) = 0)) rfl (fun c1 => ?_) (fun c1 => ?_)
  · have c1 := of_decide_eq_true c1
    rw [if_neg c1] at hM
    refine Ev.steps (B := (18, [(0, .ref 0), (1, .int a1)], [.ref 0], h)) 1 rfl ?_
    obtain ⟨h1, e2, hM⟩ := am_vS hM
    refine Ev.call (q := (mr_X8_toldEvening, [.ref 0], [])) rfl (E_X8_toldEvening_0 n h h1 e2) ?_
    refine Ev.steps (B := (27, [(4, .int 0), (3, .int 0), (2, .ref 22), (0, .ref 0), (1, .int a1)], [], h1)) 5 rfl ?_
    refine Ev.lv (lv := [(1, .int a1), (2, .ref 22), (3, .int 0), (4, .int 0)]) ⟨rfl, rfl, rfl, rfl, trivial⟩ rfl rfl ?_
    exact E_L_X8_waited_27 n vR hR n a1 0 0 h1 hM
  · have c1 := Decidable.of_not_not (of_decide_eq_false c1)
    rw [if_pos c1] at hM
    refine Ev.steps (B := (16, [(0, .ref 0), (1, .int a1)], [.int (-2)], h)) 1 rfl ?_
    obtain ⟨rfl, rfl⟩ := am_sp hM
    exact Ev.ret rfl
def M_X9_waitedOf (n : Nat) (a1 : Int32) (h : AH) : Option (Int32 × AH) :=
  am_v (M_X9_runsTold n h) fun h1 =>
  bif (am_in a1 8) then
    some (((h1.2.1 95) (Int32.toNatClampNeg a1)), h1)
  else none
set_option maxRecDepth 10000 in
theorem E_X9_waitedOf_75 (n : Nat) (a1 : Int32) (h : AH) (vR : Int32) (hR : AH) (hM : M_X9_waitedOf n a1 h = some (vR, hR)) : Ev none mr_X9_waitedOf (0, [(0, .ref 75), (1, .int a1)], [], h) (some (.int vR)) hR := by
  unfold M_X9_waitedOf at hM
  refine Ev.steps (B := (1, [(0, .ref 75), (1, .int a1)], [.ref 75], h)) 1 rfl ?_
  obtain ⟨h1, e1, hM⟩ := am_vS hM
  refine Ev.call (q := (mr_X9_runsTold, [.ref 75], [])) rfl (E_X9_runsTold_75 n h h1 e1) ?_
  refine Ev.steps (B := (9, [(0, .ref 75), (1, .int a1)], [.int a1, .ref 95], h1)) 3 rfl ?_
  obtain ⟨g2, hM⟩ := am_gS hM
  refine Ev.g (B := (10, [(0, .ref 75), (1, .int a1)], [.int ((h1.2.1 95) (Int32.toNatClampNeg a1))], h1)) g2 rfl ?_
  obtain ⟨rfl, rfl⟩ := am_sp hM
  exact Ev.ret rfl
def M_X9_waited (n : Nat) (a1 : Int32) (h : AH) : Option (Int32 × AH) :=
  am_b (M_X9_isGuest n a1 h) fun v2 h1 =>
  if v2 = 0 then
    some ((-2), h1)
  else
    am_b (M_X9_waitedOf n a1 h1) fun v4 h3 =>
    some (v4, h3)
set_option maxRecDepth 10000 in
theorem E_X9_waited_75 (n : Nat) (a1 : Int32) (h : AH) (vR : Int32) (hR : AH) (hM : M_X9_waited n a1 h = some (vR, hR)) : Ev none mr_X9_waited (0, [(0, .ref 75), (1, .int a1)], [], h) (some (.int vR)) hR := by
  unfold M_X9_waited at hM
  refine Ev.steps (B := (2, [(0, .ref 75), (1, .int a1)], [.int a1, .ref 75], h)) 2 rfl ?_
  obtain ⟨v2, h1, e1, hM⟩ := am_bS hM
  refine Ev.call (q := (mr_X9_isGuest, [.ref 75, .int a1], [])) rfl (E_X9_isGuest_75 n a1 h v2 h1 e1) ?_
  refine Ev.br (b := decide (v2 = 0)) rfl (fun c2 => ?_) (fun c2 => ?_)
  · have c2 := of_decide_eq_true c2
    rw [if_pos c2] at hM
    refine Ev.steps (B := (18, [(0, .ref 75), (1, .int a1)], [.int (-2)], h1)) 1 rfl ?_
    obtain ⟨rfl, rfl⟩ := am_sp hM
    exact Ev.ret rfl
  · have c2 := of_decide_eq_false c2
    rw [if_neg c2] at hM
    refine Ev.steps (B := (10, [(0, .ref 75), (1, .int a1)], [.int a1, .ref 75], h1)) 2 rfl ?_
    obtain ⟨v4, h3, e3, hM⟩ := am_bS hM
    refine Ev.call (q := (mr_X9_waitedOf, [.ref 75, .int a1], [])) rfl (E_X9_waitedOf_75 n a1 h1 v4 h3 e3) ?_
    refine Ev.steps (B := (18, [(0, .ref 75), (1, .int a1)], [.int v4], h3)) 1 rfl ?_
    obtain ⟨rfl, rfl⟩ := am_sp hM
    exact Ev.ret rfl
def M_X8_thirst (n : Nat) (h : AH) : Option (Int32 × AH) :=
  am_v (M_X8_toldEvening n h) fun h1 =>
  some ((((1 <<< ((h1.1 8 3) &&& 31)) - 1) &&& ((h1.1 32 7) ^^^ (-1))), h1)
set_option maxRecDepth 10000 in
theorem E_X8_thirst_0 (n : Nat) (h : AH) (vR : Int32) (hR : AH) (hM : M_X8_thirst n h = some (vR, hR)) : Ev none mr_X8_thirst (0, [(0, .ref 0)], [], h) (some (.int vR)) hR := by
  unfold M_X8_thirst at hM
  refine Ev.steps (B := (1, [(0, .ref 0)], [.ref 0], h)) 1 rfl ?_
  obtain ⟨h1, e1, hM⟩ := am_vS hM
  refine Ev.call (q := (mr_X8_toldEvening, [.ref 0], [])) rfl (E_X8_toldEvening_0 n h h1 e1) ?_
  refine Ev.steps (B := (31, [(2, .int ((1 <<< ((h1.1 8 3) &&& 31)) - 1)), (1, .ref 22), (0, .ref 0)], [.int (((1 <<< ((h1.1 8 3) &&& 31)) - 1) &&& ((h1.1 32 7) ^^^ (-1)))], h1)) 17 rfl ?_
  obtain ⟨rfl, rfl⟩ := am_sp hM
  exact Ev.ret rfl
def B_X9_thirstOf_39 (n : Nat) (k8 : Int32 → Int32 → AH → Option (Int32 × AH)) (x2 : Int32) (y0 : Int32) (y1 : Int32) (h : AH) : Option (Int32 × AH) :=
  k8 (y1 ||| y0) (x2 + 1) h
set_option maxRecDepth 10000 in
theorem E_B_X9_thirstOf_39 (n : Nat) (k8 : Int32 → Int32 → AH → Option (Int32 × AH)) (vR : Int32) (hR : AH) (hk8 : ∀ (x1 : Int32) (x2 : Int32) (h0 : AH), k8 x1 x2 h0 = some (vR, hR) → Ev none mr_X9_thirstOf (8, [(0, .ref 75), (1, .int x1), (2, .int x2)], [], h0) (some (.int vR)) hR) (x2 : Int32) (y0 : Int32) (y1 : Int32) (h : AH) (hM : B_X9_thirstOf_39 n k8 x2 y0 y1 h = some (vR, hR)) : Ev none mr_X9_thirstOf (39, [(0, .ref 75), (2, .int x2)], [.int y0, .int y1], h) (some (.int vR)) hR := by
  unfold B_X9_thirstOf_39 at hM
  refine Ev.steps (B := (8, [(2, .int (x2 + 1)), (1, .int (y1 ||| y0)), (0, .ref 75)], [], h)) 4 rfl ?_
  refine Ev.lv (lv := [(0, .ref 75), (1, .int (y1 ||| y0)), (2, .int (x2 + 1))]) ⟨rfl, rfl, rfl, trivial⟩ rfl rfl ?_
  exact hk8 (y1 ||| y0) (x2 + 1) h hM
def L_X9_thirstOf_8 (n : Nat) : Nat → Int32 → Int32 → AH → Option (Int32 × AH)
  | 0, _, _, _ => none
  | m + 1, x1, x2, h =>
    if (h.1 75 6) ≤ x2 then
      some (x1, h)
    else
      bif (am_in x2 8) then
        bif (am_in x2 9) then
          if ((h.2.1 83) (Int32.toNatClampNeg x2)) ≤ ((h.2.1 92) (Int32.toNatClampNeg x2)) then
            B_X9_thirstOf_39 n (L_X9_thirstOf_8 n m) x2 0 x1 h
          else
            B_X9_thirstOf_39 n (L_X9_thirstOf_8 n m) x2 (1 <<< (x2 &&& 31)) x1 h
        else none
      else none
set_option maxRecDepth 10000 in
theorem E_L_X9_thirstOf_8 (n : Nat) (vR : Int32) (hR : AH) : ∀ (m : Nat) (x1 : Int32) (x2 : Int32) (h : AH), L_X9_thirstOf_8 n m x1 x2 h = some (vR, hR) → Ev none mr_X9_thirstOf (8, [(0, .ref 75), (1, .int x1), (2, .int x2)], [], h) (some (.int vR)) hR := by
  intro m
  induction m with
  | zero =>
    intro x1 x2 h hM
    exact (am_no hM).elim
  | succ m ih =>
    intro x1 x2 h hM
    rw [L_X9_thirstOf_8] at hM
    refine Ev.steps (B := (13, [(0, .ref 75), (1, .int x1), (2, .int x2)], [.int (h.1 75 6), .int x2], h)) 3 rfl ?_
    refine Ev.br (b := decide ((h.1 75 6) ≤ x2)) rfl (fun c1 => ?_) (fun c1 => ?_)
    · have c1 := of_decide_eq_true c1
      rw [if_pos c1] at hM
      refine Ev.steps (B := (48, [(0, .ref 75), (1, .int x1), (2, .int x2)], [.int x1], h)) 1 rfl ?_
      obtain ⟨rfl, rfl⟩ := am_sp hM
      exact Ev.ret rfl
    · have c1 := of_decide_eq_false c1
      rw [if_neg c1] at hM
      refine Ev.steps (B := (22, [(0, .ref 75), (1, .int x1), (2, .int x2)], [.int x2, .ref 92, .int x1], h)) 4 rfl ?_
      obtain ⟨g2, hM⟩ := am_gS hM
      refine Ev.g (B := (23, [(0, .ref 75), (1, .int x1), (2, .int x2)], [.int ((h.2.1 92) (Int32.toNatClampNeg x2)), .int x1], h)) g2 rfl ?_
      refine Ev.steps (B := (28, [(0, .ref 75), (1, .int x1), (2, .int x2)], [.int x2, .ref 83, .int ((h.2.1 92) (Int32.toNatClampNeg x2)), .int x1], h)) 3 rfl ?_
      obtain ⟨g3, hM⟩ := am_gS hM
      refine Ev.g (B := (29, [(0, .ref 75), (1, .int x1), (2, .int x2)], [.int ((h.2.1 83) (Int32.toNatClampNeg x2)), .int ((h.2.1 92) (Int32.toNatClampNeg x2)), .int x1], h)) g3 rfl ?_
      refine Ev.br (b := decide (((h.2.1 83) (Int32.toNatClampNeg x2)) ≤ ((h.2.1 92) (Int32.toNatClampNeg x2)))) rfl (fun c4 => ?_) (fun c4 => ?_)
      · have c4 := of_decide_eq_true c4
        rw [if_pos c4] at hM
        refine Ev.steps (B := (39, [(0, .ref 75), (1, .int x1), (2, .int x2)], [.int 0, .int x1], h)) 1 rfl ?_
        refine Ev.lv (lv := [(0, .ref 75), (2, .int x2)]) ⟨rfl, rfl, trivial⟩ rfl rfl ?_
        exact E_B_X9_thirstOf_39 n (L_X9_thirstOf_8 n m) vR hR ih x2 0 x1 h hM
      · have c4 := of_decide_eq_false c4
        rw [if_neg c4] at hM
        refine Ev.steps (B := (39, [(0, .ref 75), (1, .int x1), (2, .int x2)], [.int (1 <<< (x2 &&& 31)), .int x1], h)) 4 rfl ?_
        refine Ev.lv (lv := [(0, .ref 75), (2, .int x2)]) ⟨rfl, rfl, trivial⟩ rfl rfl ?_
        exact E_B_X9_thirstOf_39 n (L_X9_thirstOf_8 n m) vR hR ih x2 (1 <<< (x2 &&& 31)) x1 h hM
def M_X9_thirstOf (n : Nat) (h : AH) : Option (Int32 × AH) :=
  am_v (M_X9_runsTold n h) fun h1 =>
  L_X9_thirstOf_8 n n 0 0 h1
set_option maxRecDepth 10000 in
theorem E_X9_thirstOf_75 (n : Nat) (h : AH) (vR : Int32) (hR : AH) (hM : M_X9_thirstOf n h = some (vR, hR)) : Ev none mr_X9_thirstOf (0, [(0, .ref 75)], [], h) (some (.int vR)) hR := by
  unfold M_X9_thirstOf at hM
  refine Ev.steps (B := (1, [(0, .ref 75)], [.ref 75], h)) 1 rfl ?_
  obtain ⟨h1, e1, hM⟩ := am_vS hM
  refine Ev.call (q := (mr_X9_runsTold, [.ref 75], [])) rfl (E_X9_runsTold_75 n h h1 e1) ?_
  refine Ev.steps (B := (8, [(2, .int 0), (1, .int 0), (0, .ref 75)], [], h1)) 4 rfl ?_
  refine Ev.lv (lv := [(0, .ref 75), (1, .int 0), (2, .int 0)]) ⟨rfl, rfl, rfl, trivial⟩ rfl rfl ?_
  exact E_L_X9_thirstOf_8 n vR hR n 0 0 h1 hM
def M_X9_thirst (n : Nat) (h : AH) : Option (Int32 × AH) :=
  am_b (M_X9_thirstOf n h) fun v2 h1 =>
  some (v2, h1)
set_option maxRecDepth 10000 in
theorem E_X9_thirst_75 (n : Nat) (h : AH) (vR : Int32) (hR : AH) (hM : M_X9_thirst n h = some (vR, hR)) : Ev none mr_X9_thirst (0, [(0, .ref 75)], [], h) (some (.int vR)) hR := by
  unfold M_X9_thirst at hM
  refine Ev.steps (B := (1, [(0, .ref 75)], [.ref 75], h)) 1 rfl ?_
  obtain ⟨v2, h1, e1, hM⟩ := am_bS hM
  refine Ev.call (q := (mr_X9_thirstOf, [.ref 75], [])) rfl (E_X9_thirstOf_75 n h v2 h1 e1) ?_
  obtain ⟨rfl, rfl⟩ := am_sp hM
  exact Ev.ret rfl
def M_X7_kindsOf (a1 : Int32) : Int32 :=
  (287 + (a1 * 3))
set_option maxRecDepth 10000 in
theorem E_X7_kindsOf (a1 : Int32) (h : AH) : Ev none mr_X7_kindsOf (0, [(0, .int a1)], [], h) (some (.int (M_X7_kindsOf a1))) h := by
  unfold M_X7_kindsOf
  refine Ev.steps (B := (7, [(0, .int a1)], [.int (287 + (a1 * 3))], h)) 5 rfl ?_
  exact Ev.ret rfl
def M_X1_becomeLike (r0 : Nat) (r1 : Nat) (h : AH) : Option AH :=
  bif (am_cpok 0 0 8 8 8) then
    bif (am_cpok 0 0 8 8 8) then
      bif (am_cpok 0 0 8 8 8) then
        some (am_sf (am_sa (am_sa (am_sa h (r0 + 1) (va_cpy (h.2.1 (r1 + 1)) (h.2.1 (r0 + 1)) (Int32.toNatClampNeg 0) (Int32.toNatClampNeg 0) (Int32.toNatClampNeg 8))) (r0 + 2) (va_cpy (h.2.1 (r1 + 2)) (h.2.1 (r0 + 2)) (Int32.toNatClampNeg 0) (Int32.toNatClampNeg 0) (Int32.toNatClampNeg 8))) (r0 + 3) (va_cpy (h.2.1 (r1 + 3)) (h.2.1 (r0 + 3)) (Int32.toNatClampNeg 0) (Int32.toNatClampNeg 0) (Int32.toNatClampNeg 8))) r0 3 (h.1 r1 3))
      else none
    else none
  else none
set_option maxRecDepth 10000 in
theorem E_X1_becomeLike_40_2 (h : AH) (hR : AH) (hM : M_X1_becomeLike 40 2 h = some hR) : Ev none mr_X1_becomeLike (0, [(0, .ref 40), (1, .ref 2)], [], h) none hR := by
  unfold M_X1_becomeLike at hM
  refine Ev.steps (B := (12, [(0, .ref 40), (1, .ref 2)], [.int 8, .int 0, .ref (40 + 1), .int 0, .ref (2 + 1)], h)) 7 rfl ?_
  obtain ⟨g1, hM⟩ := am_gS hM
  refine Ev.g (B := (15, [(0, .ref 40), (1, .ref 2)], [], (am_sa h (40 + 1) (va_cpy (h.2.1 (2 + 1)) (h.2.1 (40 + 1)) (Int32.toNatClampNeg 0) (Int32.toNatClampNeg 0) (Int32.toNatClampNeg 8))))) g1 rfl ?_
  refine Ev.steps (B := (27, [(0, .ref 40), (1, .ref 2)], [.int 8, .int 0, .ref (40 + 2), .int 0, .ref (2 + 2)], (am_sa h (40 + 1) (va_cpy (h.2.1 (2 + 1)) (h.2.1 (40 + 1)) (Int32.toNatClampNeg 0) (Int32.toNatClampNeg 0) (Int32.toNatClampNeg 8))))) 7 rfl ?_
  obtain ⟨g2, hM⟩ := am_gS hM
  refine Ev.g (B := (30, [(0, .ref 40), (1, .ref 2)], [], (am_sa (am_sa h (40 + 1) (va_cpy (h.2.1 (2 + 1)) (h.2.1 (40 + 1)) (Int32.toNatClampNeg 0) (Int32.toNatClampNeg 0) (Int32.toNatClampNeg 8))) (40 + 2) (va_cpy (h.2.1 (2 + 2)) (h.2.1 (40 + 2)) (Int32.toNatClampNeg 0) (Int32.toNatClampNeg 0) (Int32.toNatClampNeg 8))))) g2 rfl ?_
  refine Ev.steps (B := (42, [(0, .ref 40), (1, .ref 2)], [.int 8, .int 0, .ref (40 + 3), .int 0, .ref (2 + 3)], (am_sa (am_sa h (40 + 1) (va_cpy (h.2.1 (2 + 1)) (h.2.1 (40 + 1)) (Int32.toNatClampNeg 0) (Int32.toNatClampNeg 0) (Int32.toNatClampNeg 8))) (40 + 2) (va_cpy (h.2.1 (2 + 2)) (h.2.1 (40 + 2)) (Int32.toNatClampNeg 0) (Int32.toNatClampNeg 0) (Int32.toNatClampNeg 8))))) 7 rfl ?_
  obtain ⟨g3, hM⟩ := am_gS hM
  refine Ev.g (B := (45, [(0, .ref 40), (1, .ref 2)], [], (am_sa (am_sa (am_sa h (40 + 1) (va_cpy (h.2.1 (2 + 1)) (h.2.1 (40 + 1)) (Int32.toNatClampNeg 0) (Int32.toNatClampNeg 0) (Int32.toNatClampNeg 8))) (40 + 2) (va_cpy (h.2.1 (2 + 2)) (h.2.1 (40 + 2)) (Int32.toNatClampNeg 0) (Int32.toNatClampNeg 0) (Int32.toNatClampNeg 8))) (40 + 3) (va_cpy (h.2.1 (2 + 3)) (h.2.1 (40 + 3)) (Int32.toNatClampNeg 0) (Int32.toNatClampNeg 0) (Int32.toNatClampNeg 8))))) g3 rfl ?_
  refine Ev.steps (B := (53, [(0, .ref 40), (1, .ref 2)], [], (am_sf (am_sa (am_sa (am_sa h (40 + 1) (va_cpy (h.2.1 (2 + 1)) (h.2.1 (40 + 1)) (Int32.toNatClampNeg 0) (Int32.toNatClampNeg 0) (Int32.toNatClampNeg 8))) (40 + 2) (va_cpy (h.2.1 (2 + 2)) (h.2.1 (40 + 2)) (Int32.toNatClampNeg 0) (Int32.toNatClampNeg 0) (Int32.toNatClampNeg 8))) (40 + 3) (va_cpy (h.2.1 (2 + 3)) (h.2.1 (40 + 3)) (Int32.toNatClampNeg 0) (Int32.toNatClampNeg 0) (Int32.toNatClampNeg 8))) 40 3 (h.1 2 3)))) 4 rfl ?_
  obtain rfl := am_s1 hM
  exact Ev.ret rfl
set_option maxRecDepth 10000 in
theorem E_X1_becomeLike_44_8 (h : AH) (hR : AH) (hM : M_X1_becomeLike 44 8 h = some hR) : Ev none mr_X1_becomeLike (0, [(0, .ref 44), (1, .ref 8)], [], h) none hR := by
  unfold M_X1_becomeLike at hM
  refine Ev.steps (B := (12, [(0, .ref 44), (1, .ref 8)], [.int 8, .int 0, .ref (44 + 1), .int 0, .ref (8 + 1)], h)) 7 rfl ?_
  obtain ⟨g1, hM⟩ := am_gS hM
  refine Ev.g (B := (15, [(0, .ref 44), (1, .ref 8)], [], (am_sa h (44 + 1) (va_cpy (h.2.1 (8 + 1)) (h.2.1 (44 + 1)) (Int32.toNatClampNeg 0) (Int32.toNatClampNeg 0) (Int32.toNatClampNeg 8))))) g1 rfl ?_
  refine Ev.steps (B := (27, [(0, .ref 44), (1, .ref 8)], [.int 8, .int 0, .ref (44 + 2), .int 0, .ref (8 + 2)], (am_sa h (44 + 1) (va_cpy (h.2.1 (8 + 1)) (h.2.1 (44 + 1)) (Int32.toNatClampNeg 0) (Int32.toNatClampNeg 0) (Int32.toNatClampNeg 8))))) 7 rfl ?_
  obtain ⟨g2, hM⟩ := am_gS hM
  refine Ev.g (B := (30, [(0, .ref 44), (1, .ref 8)], [], (am_sa (am_sa h (44 + 1) (va_cpy (h.2.1 (8 + 1)) (h.2.1 (44 + 1)) (Int32.toNatClampNeg 0) (Int32.toNatClampNeg 0) (Int32.toNatClampNeg 8))) (44 + 2) (va_cpy (h.2.1 (8 + 2)) (h.2.1 (44 + 2)) (Int32.toNatClampNeg 0) (Int32.toNatClampNeg 0) (Int32.toNatClampNeg 8))))) g2 rfl ?_
  refine Ev.steps (B := (42, [(0, .ref 44), (1, .ref 8)], [.int 8, .int 0, .ref (44 + 3), .int 0, .ref (8 + 3)], (am_sa (am_sa h (44 + 1) (va_cpy (h.2.1 (8 + 1)) (h.2.1 (44 + 1)) (Int32.toNatClampNeg 0) (Int32.toNatClampNeg 0) (Int32.toNatClampNeg 8))) (44 + 2) (va_cpy (h.2.1 (8 + 2)) (h.2.1 (44 + 2)) (Int32.toNatClampNeg 0) (Int32.toNatClampNeg 0) (Int32.toNatClampNeg 8))))) 7 rfl ?_
  obtain ⟨g3, hM⟩ := am_gS hM
  refine Ev.g (B := (45, [(0, .ref 44), (1, .ref 8)], [], (am_sa (am_sa (am_sa h (44 + 1) (va_cpy (h.2.1 (8 + 1)) (h.2.1 (44 + 1)) (Int32.toNatClampNeg 0) (Int32.toNatClampNeg 0) (Int32.toNatClampNeg 8))) (44 + 2) (va_cpy (h.2.1 (8 + 2)) (h.2.1 (44 + 2)) (Int32.toNatClampNeg 0) (Int32.toNatClampNeg 0) (Int32.toNatClampNeg 8))) (44 + 3) (va_cpy (h.2.1 (8 + 3)) (h.2.1 (44 + 3)) (Int32.toNatClampNeg 0) (Int32.toNatClampNeg 0) (Int32.toNatClampNeg 8))))) g3 rfl ?_
  refine Ev.steps (B := (53, [(0, .ref 44), (1, .ref 8)], [], (am_sf (am_sa (am_sa (am_sa h (44 + 1) (va_cpy (h.2.1 (8 + 1)) (h.2.1 (44 + 1)) (Int32.toNatClampNeg 0) (Int32.toNatClampNeg 0) (Int32.toNatClampNeg 8))) (44 + 2) (va_cpy (h.2.1 (8 + 2)) (h.2.1 (44 + 2)) (Int32.toNatClampNeg 0) (Int32.toNatClampNeg 0) (Int32.toNatClampNeg 8))) (44 + 3) (va_cpy (h.2.1 (8 + 3)) (h.2.1 (44 + 3)) (Int32.toNatClampNeg 0) (Int32.toNatClampNeg 0) (Int32.toNatClampNeg 8))) 44 3 (h.1 8 3)))) 4 rfl ?_
  obtain rfl := am_s1 hM
  exact Ev.ret rfl
set_option maxRecDepth 10000 in
theorem E_X1_becomeLike_48_13 (h : AH) (hR : AH) (hM : M_X1_becomeLike 48 13 h = some hR) : Ev none mr_X1_becomeLike (0, [(0, .ref 48), (1, .ref 13)], [], h) none hR := by
  unfold M_X1_becomeLike at hM
  refine Ev.steps (B := (12, [(0, .ref 48), (1, .ref 13)], [.int 8, .int 0, .ref (48 + 1), .int 0, .ref (13 + 1)], h)) 7 rfl ?_
  obtain ⟨g1, hM⟩ := am_gS hM
  refine Ev.g (B := (15, [(0, .ref 48), (1, .ref 13)], [], (am_sa h (48 + 1) (va_cpy (h.2.1 (13 + 1)) (h.2.1 (48 + 1)) (Int32.toNatClampNeg 0) (Int32.toNatClampNeg 0) (Int32.toNatClampNeg 8))))) g1 rfl ?_
  refine Ev.steps (B := (27, [(0, .ref 48), (1, .ref 13)], [.int 8, .int 0, .ref (48 + 2), .int 0, .ref (13 + 2)], (am_sa h (48 + 1) (va_cpy (h.2.1 (13 + 1)) (h.2.1 (48 + 1)) (Int32.toNatClampNeg 0) (Int32.toNatClampNeg 0) (Int32.toNatClampNeg 8))))) 7 rfl ?_
  obtain ⟨g2, hM⟩ := am_gS hM
  refine Ev.g (B := (30, [(0, .ref 48), (1, .ref 13)], [], (am_sa (am_sa h (48 + 1) (va_cpy (h.2.1 (13 + 1)) (h.2.1 (48 + 1)) (Int32.toNatClampNeg 0) (Int32.toNatClampNeg 0) (Int32.toNatClampNeg 8))) (48 + 2) (va_cpy (h.2.1 (13 + 2)) (h.2.1 (48 + 2)) (Int32.toNatClampNeg 0) (Int32.toNatClampNeg 0) (Int32.toNatClampNeg 8))))) g2 rfl ?_
  refine Ev.steps (B := (42, [(0, .ref 48), (1, .ref 13)], [.int 8, .int 0, .ref (48 + 3), .int 0, .ref (13 + 3)], (am_sa (am_sa h (48 + 1) (va_cpy (h.2.1 (13 + 1)) (h.2.1 (48 + 1)) (Int32.toNatClampNeg 0) (Int32.toNatClampNeg 0) (Int32.toNatClampNeg 8))) (48 + 2) (va_cpy (h.2.1 (13 + 2)) (h.2.1 (48 + 2)) (Int32.toNatClampNeg 0) (Int32.toNatClampNeg 0) (Int32.toNatClampNeg 8))))) 7 rfl ?_
  obtain ⟨g3, hM⟩ := am_gS hM
  refine Ev.g (B := (45, [(0, .ref 48), (1, .ref 13)], [], (am_sa (am_sa (am_sa h (48 + 1) (va_cpy (h.2.1 (13 + 1)) (h.2.1 (48 + 1)) (Int32.toNatClampNeg 0) (Int32.toNatClampNeg 0) (Int32.toNatClampNeg 8))) (48 + 2) (va_cpy (h.2.1 (13 + 2)) (h.2.1 (48 + 2)) (Int32.toNatClampNeg 0) (Int32.toNatClampNeg 0) (Int32.toNatClampNeg 8))) (48 + 3) (va_cpy (h.2.1 (13 + 3)) (h.2.1 (48 + 3)) (Int32.toNatClampNeg 0) (Int32.toNatClampNeg 0) (Int32.toNatClampNeg 8))))) g3 rfl ?_
  refine Ev.steps (B := (53, [(0, .ref 48), (1, .ref 13)], [], (am_sf (am_sa (am_sa (am_sa h (48 + 1) (va_cpy (h.2.1 (13 + 1)) (h.2.1 (48 + 1)) (Int32.toNatClampNeg 0) (Int32.toNatClampNeg 0) (Int32.toNatClampNeg 8))) (48 + 2) (va_cpy (h.2.1 (13 + 2)) (h.2.1 (48 + 2)) (Int32.toNatClampNeg 0) (Int32.toNatClampNeg 0) (Int32.toNatClampNeg 8))) (48 + 3) (va_cpy (h.2.1 (13 + 3)) (h.2.1 (48 + 3)) (Int32.toNatClampNeg 0) (Int32.toNatClampNeg 0) (Int32.toNatClampNeg 8))) 48 3 (h.1 13 3)))) 4 rfl ?_
  obtain rfl := am_s1 hM
  exact Ev.ret rfl
def M_X4_becomeLike (r0 : Nat) (r1 : Nat) (h : AH) : Option AH :=
  am_v (M_X1_becomeLike (pl_f r0) (pl_f r1) h) fun h1 =>
  am_v (M_X1_becomeLike (pl_g r0) (pl_g r1) h1) fun h2 =>
  am_v (M_X1_becomeLike (pl_e r0) (pl_e r1) h2) fun h3 =>
  some (am_sf (am_sf (am_sf h3 r0 3 (h3.1 r1 3)) r0 4 (h3.1 r1 4)) r0 5 (h3.1 r1 5))
set_option maxRecDepth 10000 in
theorem E_X4_becomeLike_39_21 (h : AH) (hR : AH) (hM : M_X4_becomeLike 39 21 h = some hR) : Ev none mr_X4_becomeLike (0, [(0, .ref 39), (1, .ref 21)], [], h) none hR := by
  unfold M_X4_becomeLike at hM
  refine Ev.steps (B := (8, [(0, .ref 39), (1, .ref 21)], [.ref (pl_f 21), .ref (pl_f 39)], h)) 4 rfl ?_
  obtain ⟨h1, e1, hM⟩ := am_vS hM
  refine Ev.call (q := (mr_X1_becomeLike, [.ref (pl_f 39), .ref (pl_f 21)], [])) rfl (E_X1_becomeLike_40_2 h h1 e1) ?_
  refine Ev.steps (B := (19, [(0, .ref 39), (1, .ref 21)], [.ref (pl_g 21), .ref (pl_g 39)], h1)) 4 rfl ?_
  obtain ⟨h2, e2, hM⟩ := am_vS hM
  refine Ev.call (q := (mr_X1_becomeLike, [.ref (pl_g 39), .ref (pl_g 21)], [])) rfl (E_X1_becomeLike_44_8 h1 h2 e2) ?_
  refine Ev.steps (B := (30, [(0, .ref 39), (1, .ref 21)], [.ref (pl_e 21), .ref (pl_e 39)], h2)) 4 rfl ?_
  obtain ⟨h3, e3, hM⟩ := am_vS hM
  refine Ev.call (q := (mr_X1_becomeLike, [.ref (pl_e 39), .ref (pl_e 21)], [])) rfl (E_X1_becomeLike_48_13 h2 h3 e3) ?_
  refine Ev.steps (B := (57, [(0, .ref 39), (1, .ref 21)], [], (am_sf (am_sf (am_sf h3 39 3 (h3.1 21 3)) 39 4 (h3.1 21 4)) 39 5 (h3.1 21 5)))) 12 rfl ?_
  obtain rfl := am_s1 hM
  exact Ev.ret rfl
def M_X7_alter (a1 : Int32) (h : AH) : Option AH :=
  if 256 ≤ a1 then
    if 287 ≤ a1 then
      if 311 ≤ a1 then
        if 503 ≤ a1 then
          some h
        else
          bif (am_in ((a1 - 311) / 24) 8) then
            some (am_sa h 45 (upd (h.2.1 45) (Int32.toNatClampNeg ((a1 - 311) / 24)) ((a1 - 311) - (a1 - 311) / 24 * 24)))
          else none
      else
        bif (am_in ((a1 - 287) / 3) 8) then
          some (am_sa h 42 (upd (h.2.1 42) (Int32.toNatClampNeg ((a1 - 287) / 3)) ((a1 - 287) - (a1 - 287) / 3 * 3)))
        else none
    else
      some (am_sf h 39 3 (a1 - 256))
  else
    some (am_sf h 39 5 a1)
set_option maxRecDepth 10000 in
theorem E_X7_alter_37 (a1 : Int32) (h : AH) (hR : AH) (hM : M_X7_alter a1 h = some hR) : Ev none mr_X7_alter (0, [(0, .ref 37), (1, .int a1)], [], h) none hR := by
  unfold M_X7_alter at hM
  refine Ev.steps (B := (4, [(0, .ref 37), (1, .int a1)], [.int 256, .int a1], h)) 2 rfl ?_
  refine Ev.br (b := decide (256 ≤ a1)) rfl (fun c1 => ?_) (fun c1 => ?_)
  · have c1 := of_decide_eq_true c1
    rw [if_pos c1] at hM
    refine Ev.steps (B := (22, [(0, .ref 37), (1, .int a1)], [.int 287, .int a1], h)) 2 rfl ?_
    refine Ev.br (b := decide (287 ≤ a1)) rfl (fun c2 => ?_) (fun c2 => ?_)
    · have c2 := of_decide_eq_true c2
      rw [if_pos c2] at hM
      refine Ev.steps (B := (44, [(0, .ref 37), (1, .int a1)], [.int 311, .int a1], h)) 2 rfl ?_
      refine Ev.br (b := decide (311 ≤ a1)) rfl (fun c3 => ?_) (fun c3 => ?_)
      · have c3 := of_decide_eq_true c3
        rw [if_pos c3] at hM
        refine Ev.steps (B := (77, [(0, .ref 37), (1, .int a1)], [.int 503, .int a1], h)) 2 rfl ?_
        refine Ev.br (b := decide (503 ≤ a1)) rfl (fun c4 => ?_) (fun c4 => ?_)
        · have c4 := of_decide_eq_true c4
          rw [if_pos c4] at hM
          obtain rfl := am_s1 hM
          exact Ev.ret rfl
        · have c4 := of_decide_eq_false c4
          rw [if_neg c4] at hM
          refine Ev.steps (B := (104, [(2, .int (a1 - 311)), (0, .ref 37), (1, .int a1)], [.int ((a1 - 311) - (a1 - 311) / 24 * 24), .int ((a1 - 311) / 24), .ref 45], h)) 14 rfl ?_
          obtain ⟨g5, hM⟩ := am_gS hM
          refine Ev.g (B := (105, [(2, .int (a1 - 311)), (0, .ref 37), (1, .int a1)], [], (am_sa h 45 (upd (h.2.1 45) (Int32.toNatClampNeg ((a1 - 311) / 24)) ((a1 - 311) - (a1 - 311) / 24 * 24))))) g5 rfl ?_
          obtain rfl := am_s1 hM
          exact Ev.ret rfl
      · have c3 := of_decide_eq_false c3
        rw [if_neg c3] at hM
        refine Ev.steps (B := (69, [(2, .int (a1 - 287)), (0, .ref 37), (1, .int a1)], [.int ((a1 - 287) - (a1 - 287) / 3 * 3), .int ((a1 - 287) / 3), .ref 42], h)) 14 rfl ?_
        obtain ⟨g6, hM⟩ := am_gS hM
        refine Ev.g (B := (70, [(2, .int (a1 - 287)), (0, .ref 37), (1, .int a1)], [], (am_sa h 42 (upd (h.2.1 42) (Int32.toNatClampNeg ((a1 - 287) / 3)) ((a1 - 287) - (a1 - 287) / 3 * 3))))) g6 rfl ?_
        refine Ev.steps (B := (105, [(2, .int (a1 - 287)), (0, .ref 37), (1, .int a1)], [], (am_sa h 42 (upd (h.2.1 42) (Int32.toNatClampNeg ((a1 - 287) / 3)) ((a1 - 287) - (a1 - 287) / 3 * 3))))) 1 rfl ?_
        obtain rfl := am_s1 hM
        exact Ev.ret rfl
    · have c2 := of_decide_eq_false c2
      rw [if_neg c2] at hM
      refine Ev.steps (B := (105, [(0, .ref 37), (1, .int a1)], [], (am_sf h 39 3 (a1 - 256)))) 7 rfl ?_
      obtain rfl := am_s1 hM
      exact Ev.ret rfl
  · have c1 := of_decide_eq_false c1
    rw [if_neg c1] at hM
    refine Ev.steps (B := (105, [(0, .ref 37), (1, .int a1)], [], (am_sf h 39 5 a1))) 5 rfl ?_
    obtain rfl := am_s1 hM
    exact Ev.ret rfl
set_option maxRecDepth 10000 in
theorem E_X3_begin_61_39 (h : AH) (hR : AH) (hM : M_X3_begin 61 39 h = some hR) : Ev none mr_X3_begin (0, [(0, .ref 61), (1, .ref 39)], [], h) none hR := by
  unfold M_X3_begin at hM
  refine Ev.steps (B := (26, [(0, .ref 61), (1, .ref 39)], [], (am_sf (am_sf (am_sf (am_sf h 61 0 0) 61 1 (h.1 39 3)) 61 2 (h.1 39 4)) 61 3 0))) 14 rfl ?_
  obtain rfl := am_s1 hM
  exact Ev.ret rfl
set_option maxRecDepth 10000 in
theorem E_L_J14_fill_I_5_63 (n : Nat) (hR : AH) : ∀ (m : Nat) (x1 : Int32) (x2 : Int32) (x3 : Int32) (h : AH), L_J14_fill_I_5 n 63 m x1 x2 x3 h = some hR → Ev none mr_J14_fill_I (5, [(0, .ref 63), (1, .int x1), (2, .int x2), (3, .int x3)], [], h) none hR := by
  intro m
  induction m with
  | zero =>
    intro x1 x2 x3 h hM
    exact (am_no hM).elim
  | succ m ih =>
    intro x1 x2 x3 h hM
    rw [L_J14_fill_I_5] at hM
    refine Ev.steps (B := (7, [(0, .ref 63), (1, .int x1), (2, .int x2), (3, .int x3)], [.int x3, .int x2], h)) 2 rfl ?_
    refine Ev.br (b := decide (x3 ≤ x2)) rfl (fun c1 => ?_) (fun c1 => ?_)
    · have c1 := of_decide_eq_true c1
      rw [if_pos c1] at hM
      obtain rfl := am_s1 hM
      exact Ev.ret rfl
    · have c1 := of_decide_eq_false c1
      rw [if_neg c1] at hM
      refine Ev.steps (B := (13, [(0, .ref 63), (1, .int x1), (2, .int x2), (3, .int x3)], [.int x1, .int x2, .ref 63], h)) 3 rfl ?_
      obtain ⟨g2, hM⟩ := am_gS hM
      refine Ev.g (B := (14, [(0, .ref 63), (1, .int x1), (2, .int x2), (3, .int x3)], [], (am_sa h 63 (upd (h.2.1 63) (Int32.toNatClampNeg x2) x1)))) g2 rfl ?_
      refine Ev.steps (B := (5, [(2, .int (x2 + 1)), (0, .ref 63), (1, .int x1), (3, .int x3)], [], (am_sa h 63 (upd (h.2.1 63) (Int32.toNatClampNeg x2) x1)))) 2 rfl ?_
      refine Ev.lv (lv := [(0, .ref 63), (1, .int x1), (2, .int (x2 + 1)), (3, .int x3)]) ⟨rfl, rfl, rfl, rfl, trivial⟩ rfl rfl ?_
      exact ih x1 (x2 + 1) x3 (am_sa h 63 (upd (h.2.1 63) (Int32.toNatClampNeg x2) x1)) hM
set_option maxRecDepth 10000 in
theorem E_J14_fill_I_63 (n : Nat) (a2 : Int32) (h : AH) (hR : AH) (hM : M_J14_fill_I n 63 a2 h = some hR) : Ev none mr_J14_fill_I (0, [(0, .ref 63), (1, .int a2)], [], h) none hR := by
  unfold M_J14_fill_I at hM
  refine Ev.steps (B := (5, [(3, .int (Int32.ofNat (am_lna 63))), (2, .int 0), (0, .ref 63), (1, .int a2)], [], h)) 5 rfl ?_
  refine Ev.lv (lv := [(0, .ref 63), (1, .int a2), (2, .int 0), (3, .int (Int32.ofNat (am_lna 63)))]) ⟨rfl, rfl, rfl, rfl, trivial⟩ rfl rfl ?_
  exact E_L_J14_fill_I_5_63 n hR n a2 0 (Int32.ofNat (am_lna 63)) h hM
set_option maxRecDepth 10000 in
theorem E_L_J14_fill_I_5_64 (n : Nat) (hR : AH) : ∀ (m : Nat) (x1 : Int32) (x2 : Int32) (x3 : Int32) (h : AH), L_J14_fill_I_5 n 64 m x1 x2 x3 h = some hR → Ev none mr_J14_fill_I (5, [(0, .ref 64), (1, .int x1), (2, .int x2), (3, .int x3)], [], h) none hR := by
  intro m
  induction m with
  | zero =>
    intro x1 x2 x3 h hM
    exact (am_no hM).elim
  | succ m ih =>
    intro x1 x2 x3 h hM
    rw [L_J14_fill_I_5] at hM
    refine Ev.steps (B := (7, [(0, .ref 64), (1, .int x1), (2, .int x2), (3, .int x3)], [.int x3, .int x2], h)) 2 rfl ?_
    refine Ev.br (b := decide (x3 ≤ x2)) rfl (fun c1 => ?_) (fun c1 => ?_)
    · have c1 := of_decide_eq_true c1
      rw [if_pos c1] at hM
      obtain rfl := am_s1 hM
      exact Ev.ret rfl
    · have c1 := of_decide_eq_false c1
      rw [if_neg c1] at hM
      refine Ev.steps (B := (13, [(0, .ref 64), (1, .int x1), (2, .int x2), (3, .int x3)], [.int x1, .int x2, .ref 64], h)) 3 rfl ?_
      obtain ⟨g2, hM⟩ := am_gS hM
      refine Ev.g (B := (14, [(0, .ref 64), (1, .int x1), (2, .int x2), (3, .int x3)], [], (am_sa h 64 (upd (h.2.1 64) (Int32.toNatClampNeg x2) x1)))) g2 rfl ?_
      refine Ev.steps (B := (5, [(2, .int (x2 + 1)), (0, .ref 64), (1, .int x1), (3, .int x3)], [], (am_sa h 64 (upd (h.2.1 64) (Int32.toNatClampNeg x2) x1)))) 2 rfl ?_
      refine Ev.lv (lv := [(0, .ref 64), (1, .int x1), (2, .int (x2 + 1)), (3, .int x3)]) ⟨rfl, rfl, rfl, rfl, trivial⟩ rfl rfl ?_
      exact ih x1 (x2 + 1) x3 (am_sa h 64 (upd (h.2.1 64) (Int32.toNatClampNeg x2) x1)) hM
set_option maxRecDepth 10000 in
theorem E_J14_fill_I_64 (n : Nat) (a2 : Int32) (h : AH) (hR : AH) (hM : M_J14_fill_I n 64 a2 h = some hR) : Ev none mr_J14_fill_I (0, [(0, .ref 64), (1, .int a2)], [], h) none hR := by
  unfold M_J14_fill_I at hM
  refine Ev.steps (B := (5, [(3, .int (Int32.ofNat (am_lna 64))), (2, .int 0), (0, .ref 64), (1, .int a2)], [], h)) 5 rfl ?_
  refine Ev.lv (lv := [(0, .ref 64), (1, .int a2), (2, .int 0), (3, .int (Int32.ofNat (am_lna 64)))]) ⟨rfl, rfl, rfl, rfl, trivial⟩ rfl rfl ?_
  exact E_L_J14_fill_I_5_64 n hR n a2 0 (Int32.ofNat (am_lna 64)) h hM
set_option maxRecDepth 10000 in
theorem E_X0_begin_62 (n : Nat) (h : AH) (hR : AH) (hM : M_X0_begin n 62 h = some hR) : Ev none mr_X0_begin (0, [(0, .ref 62)], [], h) none hR := by
  unfold M_X0_begin at hM
  refine Ev.steps (B := (5, [(0, .ref 62)], [.int 0, .ref (62 + 1)], h)) 3 rfl ?_
  obtain ⟨h1, e1, hM⟩ := am_vS hM
  refine Ev.call (q := (mr_J14_fill_I, [.ref (62 + 1), .int 0], [])) rfl (E_J14_fill_I_63 n 0 h h1 e1) ?_
  refine Ev.steps (B := (13, [(0, .ref 62)], [.int 0, .ref (62 + 2)], h1)) 3 rfl ?_
  obtain ⟨h2, e2, hM⟩ := am_vS hM
  refine Ev.call (q := (mr_J14_fill_I, [.ref (62 + 2), .int 0], [])) rfl (E_J14_fill_I_64 n 0 h1 h2 e2) ?_
  refine Ev.steps (B := (41, [(0, .ref 62)], [], (am_sf (am_sf (am_sf (am_sf (am_sf h2 62 4 0) 62 5 0) 62 6 0) 62 7 0) 62 8 0))) 15 rfl ?_
  obtain rfl := am_s1 hM
  exact Ev.ret rfl
set_option maxRecDepth 10000 in
theorem E_L_J14_fill_I_5_56 (n : Nat) (hR : AH) : ∀ (m : Nat) (x1 : Int32) (x2 : Int32) (x3 : Int32) (h : AH), L_J14_fill_I_5 n 56 m x1 x2 x3 h = some hR → Ev none mr_J14_fill_I (5, [(0, .ref 56), (1, .int x1), (2, .int x2), (3, .int x3)], [], h) none hR := by
  intro m
  induction m with
  | zero =>
    intro x1 x2 x3 h hM
    exact (am_no hM).elim
  | succ m ih =>
    intro x1 x2 x3 h hM
    rw [L_J14_fill_I_5] at hM
    refine Ev.steps (B := (7, [(0, .ref 56), (1, .int x1), (2, .int x2), (3, .int x3)], [.int x3, .int x2], h)) 2 rfl ?_
    refine Ev.br (b := decide (x3 ≤ x2)) rfl (fun c1 => ?_) (fun c1 => ?_)
    · have c1 := of_decide_eq_true c1
      rw [if_pos c1] at hM
      obtain rfl := am_s1 hM
      exact Ev.ret rfl
    · have c1 := of_decide_eq_false c1
      rw [if_neg c1] at hM
      refine Ev.steps (B := (13, [(0, .ref 56), (1, .int x1), (2, .int x2), (3, .int x3)], [.int x1, .int x2, .ref 56], h)) 3 rfl ?_
      obtain ⟨g2, hM⟩ := am_gS hM
      refine Ev.g (B := (14, [(0, .ref 56), (1, .int x1), (2, .int x2), (3, .int x3)], [], (am_sa h 56 (upd (h.2.1 56) (Int32.toNatClampNeg x2) x1)))) g2 rfl ?_
      refine Ev.steps (B := (5, [(2, .int (x2 + 1)), (0, .ref 56), (1, .int x1), (3, .int x3)], [], (am_sa h 56 (upd (h.2.1 56) (Int32.toNatClampNeg x2) x1)))) 2 rfl ?_
      refine Ev.lv (lv := [(0, .ref 56), (1, .int x1), (2, .int (x2 + 1)), (3, .int x3)]) ⟨rfl, rfl, rfl, rfl, trivial⟩ rfl rfl ?_
      exact ih x1 (x2 + 1) x3 (am_sa h 56 (upd (h.2.1 56) (Int32.toNatClampNeg x2) x1)) hM
set_option maxRecDepth 10000 in
theorem E_J14_fill_I_56 (n : Nat) (a2 : Int32) (h : AH) (hR : AH) (hM : M_J14_fill_I n 56 a2 h = some hR) : Ev none mr_J14_fill_I (0, [(0, .ref 56), (1, .int a2)], [], h) none hR := by
  unfold M_J14_fill_I at hM
  refine Ev.steps (B := (5, [(3, .int (Int32.ofNat (am_lna 56))), (2, .int 0), (0, .ref 56), (1, .int a2)], [], h)) 5 rfl ?_
  refine Ev.lv (lv := [(0, .ref 56), (1, .int a2), (2, .int 0), (3, .int (Int32.ofNat (am_lna 56)))]) ⟨rfl, rfl, rfl, rfl, trivial⟩ rfl rfl ?_
  exact E_L_J14_fill_I_5_56 n hR n a2 0 (Int32.ofNat (am_lna 56)) h hM
set_option maxRecDepth 10000 in
theorem E_L_X2_light_70_52_40 (n : Nat) (k10 : Int32 → AH → Option AH) (hR : AH) (hk10 : ∀ (x2 : Int32) (h0 : AH), k10 x2 h0 = some hR → Ev none mr_X2_light (10, [(0, .ref 52), (1, .ref 40), (2, .int x2)], [], h0) none hR) : ∀ (m : Nat) (x2 : Int32) (x3 : Int32) (x5 : Int32) (x6 : Int32) (h : AH), L_X2_light_70 n k10 52 40 m x2 x3 x5 x6 h = some hR → Ev none mr_X2_light (70, [(0, .ref 52), (1, .ref 40), (2, .int x2), (3, .int x3), (5, .int x5), (6, .int x6)], [], h) none hR := by
  intro m
  induction m with
  | zero =>
    intro x2 x3 x5 x6 h hM
    exact (am_no hM).elim
  | succ m ih =>
    intro x2 x3 x5 x6 h hM
    rw [L_X2_light_70] at hM
    refine Ev.steps (B := (74, [(0, .ref 52), (1, .ref 40), (2, .int x2), (3, .int x3), (5, .int x5), (6, .int x6)], [.int x5, .int x6], h)) 2 rfl ?_
    refine Ev.br (b := decide (x5 ≤ x6)) rfl (fun c1 => ?_) (fun c1 => ?_)
    · have c1 := of_decide_eq_true c1
      rw [if_pos c1] at hM
      refine Ev.steps (B := (10, [(2, .int (x2 + 1)), (0, .ref 52), (1, .ref 40), (3, .int x3), (5, .int x5), (6, .int x6)], [], h)) 2 rfl ?_
      refine Ev.lv (lv := [(0, .ref 52), (1, .ref 40), (2, .int (x2 + 1))]) ⟨rfl, rfl, rfl, trivial⟩ rfl rfl ?_
      exact hk10 (x2 + 1) h hM
    · have c1 := of_decide_eq_false c1
      rw [if_neg c1] at hM
      refine Ev.steps (B := (84, [(0, .ref 52), (1, .ref 40), (2, .int x2), (3, .int x3), (5, .int x5), (6, .int x6)], [.int x6, .ref (52 + 4), .int x6, .ref (52 + 4)], h)) 4 rfl ?_
      obtain ⟨g2, hM⟩ := am_gS hM
      refine Ev.g (B := (85, [(0, .ref 52), (1, .ref 40), (2, .int x2), (3, .int x3), (5, .int x5), (6, .int x6)], [.int ((h.2.1 (52 + 4)) (Int32.toNatClampNeg x6)), .int x6, .ref (52 + 4)], h)) g2 rfl ?_
      refine Ev.steps (B := (89, [(0, .ref 52), (1, .ref 40), (2, .int x2), (3, .int x3), (5, .int x5), (6, .int x6)], [.int x3, .ref 203, .int ((h.2.1 (52 + 4)) (Int32.toNatClampNeg x6)), .int x6, .ref (52 + 4)], h)) 2 rfl ?_
      obtain ⟨g3, hM⟩ := am_gS hM
      refine Ev.g (B := (90, [(0, .ref 52), (1, .ref 40), (2, .int x2), (3, .int x3), (5, .int x5), (6, .int x6)], [.int (([3, 4, 3] : List Int32).getD (Int32.toNatClampNeg x3) 0), .int ((h.2.1 (52 + 4)) (Int32.toNatClampNeg x6)), .int x6, .ref (52 + 4)], h)) g3 rfl ?_
      refine Ev.steps (B := (95, [(0, .ref 52), (1, .ref 40), (2, .int x2), (3, .int x3), (5, .int x5), (6, .int x6)], [.int x2, .ref (40 + 3), .int (([3, 4, 3] : List Int32).getD (Int32.toNatClampNeg x3) 0), .int ((h.2.1 (52 + 4)) (Int32.toNatClampNeg x6)), .int x6, .ref (52 + 4)], h)) 3 rfl ?_
      obtain ⟨g4, hM⟩ := am_gS hM
      refine Ev.g (B := (96, [(0, .ref 52), (1, .ref 40), (2, .int x2), (3, .int x3), (5, .int x5), (6, .int x6)], [.int ((h.2.1 (40 + 3)) (Int32.toNatClampNeg x2)), .int (([3, 4, 3] : List Int32).getD (Int32.toNatClampNeg x3) 0), .int ((h.2.1 (52 + 4)) (Int32.toNatClampNeg x6)), .int x6, .ref (52 + 4)], h)) g4 rfl ?_
      refine Ev.steps (B := (98, [(0, .ref 52), (1, .ref 40), (2, .int x2), (3, .int x3), (5, .int x5), (6, .int x6)], [.int (((h.2.1 (52 + 4)) (Int32.toNatClampNeg x6)) + ((([3, 4, 3] : List Int32).getD (Int32.toNatClampNeg x3) 0) * ((h.2.1 (40 + 3)) (Int32.toNatClampNeg x2)))), .int x6, .ref (52 + 4)], h)) 2 rfl ?_
      obtain ⟨g5, hM⟩ := am_gS hM
      refine Ev.g (B := (99, [(0, .ref 52), (1, .ref 40), (2, .int x2), (3, .int x3), (5, .int x5), (6, .int x6)], [], (am_sa h (52 + 4) (upd (h.2.1 (52 + 4)) (Int32.toNatClampNeg x6) (((h.2.1 (52 + 4)) (Int32.toNatClampNeg x6)) + ((([3, 4, 3] : List Int32).getD (Int32.toNatClampNeg x3) 0) * ((h.2.1 (40 + 3)) (Int32.toNatClampNeg x2)))))))) g5 rfl ?_
      refine Ev.steps (B := (70, [(6, .int (x6 + 1)), (0, .ref 52), (1, .ref 40), (2, .int x2), (3, .int x3), (5, .int x5)], [], (am_sa h (52 + 4) (upd (h.2.1 (52 + 4)) (Int32.toNatClampNeg x6) (((h.2.1 (52 + 4)) (Int32.toNatClampNeg x6)) + ((([3, 4, 3] : List Int32).getD (Int32.toNatClampNeg x3) 0) * ((h.2.1 (40 + 3)) (Int32.toNatClampNeg x2)))))))) 2 rfl ?_
      refine Ev.lv (lv := [(0, .ref 52), (1, .ref 40), (2, .int x2), (3, .int x3), (5, .int x5), (6, .int (x6 + 1))]) ⟨rfl, rfl, rfl, rfl, rfl, rfl, trivial⟩ rfl rfl ?_
      exact ih x2 x3 x5 (x6 + 1) (am_sa h (52 + 4) (upd (h.2.1 (52 + 4)) (Int32.toNatClampNeg x6) (((h.2.1 (52 + 4)) (Int32.toNatClampNeg x6)) + ((([3, 4, 3] : List Int32).getD (Int32.toNatClampNeg x3) 0) * ((h.2.1 (40 + 3)) (Int32.toNatClampNeg x2)))))) hM
set_option maxRecDepth 10000 in
theorem E_L_X2_light_10_52_40 (n : Nat) (hR : AH) : ∀ (m : Nat) (x2 : Int32) (h : AH), L_X2_light_10 n 52 40 m x2 h = some hR → Ev none mr_X2_light (10, [(0, .ref 52), (1, .ref 40), (2, .int x2)], [], h) none hR := by
  intro m
  induction m with
  | zero =>
    intro x2 h hM
    exact (am_no hM).elim
  | succ m ih =>
    intro x2 h hM
    rw [L_X2_light_10] at hM
    refine Ev.steps (B := (15, [(0, .ref 52), (1, .ref 40), (2, .int x2)], [.int (h.1 40 3), .int x2], h)) 3 rfl ?_
    refine Ev.br (b := decide ((h.1 40 3) ≤ x2)) rfl (fun c1 => ?_) (fun c1 => ?_)
    · have c1 := of_decide_eq_true c1
      rw [if_pos c1] at hM
      obtain rfl := am_s1 hM
      exact Ev.ret rfl
    · have c1 := of_decide_eq_false c1
      rw [if_neg c1] at hM
      refine Ev.steps (B := (21, [(0, .ref 52), (1, .ref 40), (2, .int x2)], [.int 8, .int x2], h)) 2 rfl ?_
      refine Ev.br (b := decide (8 ≤ x2)) rfl (fun c2 => ?_) (fun c2 => ?_)
      · have c2 := of_decide_eq_true c2
        rw [if_pos c2] at hM
        obtain rfl := am_s1 hM
        exact Ev.ret rfl
      · have c2 := of_decide_eq_false c2
        rw [if_neg c2] at hM
        refine Ev.steps (B := (29, [(0, .ref 52), (1, .ref 40), (2, .int x2)], [.int x2, .ref (40 + 2)], h)) 3 rfl ?_
        obtain ⟨g3, hM⟩ := am_gS hM
        refine Ev.g (B := (30, [(0, .ref 52), (1, .ref 40), (2, .int x2)], [.int ((h.2.1 (40 + 2)) (Int32.toNatClampNeg x2))], h)) g3 rfl ?_
        refine Ev.steps (B := (33, [(3, .int ((h.2.1 (40 + 2)) (Int32.toNatClampNeg x2))), (0, .ref 52), (1, .ref 40), (2, .int x2)], [.int 2, .int ((h.2.1 (40 + 2)) (Int32.toNatClampNeg x2))], h)) 3 rfl ?_
        refine Ev.call (q := (mr_X8_within, [.int ((h.2.1 (40 + 2)) (Int32.toNatClampNeg x2)), .int 2], [])) rfl (E_X8_within ((h.2.1 (40 + 2)) (Int32.toNatClampNeg x2)) 2 h) ?_
        refine Ev.br (b := decide ((M_X8_within ((h.2.1 (40 + 2)) (Int32.toNatClampNeg x2)) 2) = 0)) rfl (fun c4 => ?_) (fun c4 => ?_)
        · have c4 := of_decide_eq_true c4
          rw [if_pos c4] at hM
          refine Ev.steps (B := (10, [(2, .int (x2 + 1)), (3, .int ((h.2.1 (40 + 2)) (Int32.toNatClampNeg x2))), (0, .ref 52), (1, .ref 40)], [], h)) 2 rfl ?_
          refine Ev.lv (lv := [(0, .ref 52), (1, .ref 40), (2, .int (x2 + 1))]) ⟨rfl, rfl, rfl, trivial⟩ rfl rfl ?_
          exact ih (x2 + 1) h hM
        · have c4 := of_decide_eq_false c4
          rw [if_neg c4] at hM
          refine Ev.steps (B := (45, [(3, .int ((h.2.1 (40 + 2)) (Int32.toNatClampNeg x2))), (0, .ref 52), (1, .ref 40), (2, .int x2)], [.int x2, .ref (40 + 1), .int 0], h)) 4 rfl ?_
          obtain ⟨g5, hM⟩ := am_gS hM
          refine Ev.g (B := (46, [(3, .int ((h.2.1 (40 + 2)) (Int32.toNatClampNeg x2))), (0, .ref 52), (1, .ref 40), (2, .int x2)], [.int ((h.2.1 (40 + 1)) (Int32.toNatClampNeg x2)), .int 0], h)) g5 rfl ?_
          refine Ev.steps (B := (59, [(4, .int (am_max 0 ((h.2.1 (40 + 1)) (Int32.toNatClampNeg x2)))), (3, .int ((h.2.1 (40 + 2)) (Int32.toNatClampNeg x2))), (0, .ref 52), (1, .ref 40), (2, .int x2)], [.int ((h.2.1 (40 + 2)) (Int32.toNatClampNeg x2)), .ref 202, .int (am_max 0 ((h.2.1 (40 + 1)) (Int32.toNatClampNeg x2))), .int 24], h)) 6 rfl ?_
          obtain ⟨g6, hM⟩ := am_gS hM
          refine Ev.g (B := (60, [(4, .int (am_max 0 ((h.2.1 (40 + 1)) (Int32.toNatClampNeg x2)))), (3, .int ((h.2.1 (40 + 2)) (Int32.toNatClampNeg x2))), (0, .ref 52), (1, .ref 40), (2, .int x2)], [.int (([3, 5, 9] : List Int32).getD (Int32.toNatClampNeg ((h.2.1 (40 + 2)) (Int32.toNatClampNeg x2))) 0), .int (am_max 0 ((h.2.1 (40 + 1)) (Int32.toNatClampNeg x2))), .int 24], h)) g6 rfl ?_
          refine Ev.steps (B := (70, [(6, .int (am_max 0 ((h.2.1 (40 + 1)) (Int32.toNatClampNeg x2)))), (5, .int (am_min 24 ((am_max 0 ((h.2.1 (40 + 1)) (Int32.toNatClampNeg x2))) + (([3, 5, 9] : List Int32).getD (Int32.toNatClampNeg ((h.2.1 (40 + 2)) (Int32.toNatClampNeg x2))) 0)))), (4, .int (am_max 0 ((h.2.1 (40 + 1)) (Int32.toNatClampNeg x2)))), (3, .int ((h.2.1 (40 + 2)) (Int32.toNatClampNeg x2))), (0, .ref 52), (1, .ref 40), (2, .int x2)], [], h)) 5 rfl ?_
          refine Ev.lv (lv := [(0, .ref 52), (1, .ref 40), (2, .int x2), (3, .int ((h.2.1 (40 + 2)) (Int32.toNatClampNeg x2))), (5, .int (am_min 24 ((am_max 0 ((h.2.1 (40 + 1)) (Int32.toNatClampNeg x2))) + (([3, 5, 9] : List Int32).getD (Int32.toNatClampNeg ((h.2.1 (40 + 2)) (Int32.toNatClampNeg x2))) 0)))), (6, .int (am_max 0 ((h.2.1 (40 + 1)) (Int32.toNatClampNeg x2))))]) ⟨rfl, rfl, rfl, rfl, rfl, rfl, trivial⟩ rfl rfl ?_
          exact E_L_X2_light_70_52_40 n (L_X2_light_10 n 52 40 m) hR ih n x2 ((h.2.1 (40 + 2)) (Int32.toNatClampNeg x2)) (am_min 24 ((am_max 0 ((h.2.1 (40 + 1)) (Int32.toNatClampNeg x2))) + (([3, 5, 9] : List Int32).getD (Int32.toNatClampNeg ((h.2.1 (40 + 2)) (Int32.toNatClampNeg x2))) 0))) (am_max 0 ((h.2.1 (40 + 1)) (Int32.toNatClampNeg x2))) h hM
set_option maxRecDepth 10000 in
theorem E_X2_light_52_40 (n : Nat) (h : AH) (hR : AH) (hM : M_X2_light n 52 40 h = some hR) : Ev none mr_X2_light (0, [(0, .ref 52), (1, .ref 40)], [], h) none hR := by
  unfold M_X2_light at hM
  refine Ev.steps (B := (5, [(0, .ref 52), (1, .ref 40)], [.int 0, .ref (52 + 4)], h)) 3 rfl ?_
  obtain ⟨h1, e1, hM⟩ := am_vS hM
  refine Ev.call (q := (mr_J14_fill_I, [.ref (52 + 4), .int 0], [])) rfl (E_J14_fill_I_56 n 0 h h1 e1) ?_
  refine Ev.steps (B := (10, [(2, .int 0), (0, .ref 52), (1, .ref 40)], [], h1)) 2 rfl ?_
  refine Ev.lv (lv := [(0, .ref 52), (1, .ref 40), (2, .int 0)]) ⟨rfl, rfl, rfl, trivial⟩ rfl rfl ?_
  exact E_L_X2_light_10_52_40 n hR n 0 h1 hM
set_option maxRecDepth 10000 in
theorem E_L_X3_meet_11_61_39 (n : Nat) (vR : Int32) (hR : AH) : ∀ (m : Nat) (x2 : Int32) (x4 : Int32) (x5 : Int32) (h : AH), L_X3_meet_11 n 61 39 m x2 x4 x5 h = some (vR, hR) → Ev none mr_X3_meet (11, [(0, .ref 61), (1, .ref 39), (2, .int x2), (3, .ref (pl_e 39)), (4, .int x4), (5, .int x5)], [], h) (some (.int vR)) hR := by
  intro m
  induction m with
  | zero =>
    intro x2 x4 x5 h hM
    exact (am_no hM).elim
  | succ m ih =>
    intro x2 x4 x5 h hM
    rw [L_X3_meet_11] at hM
    refine Ev.steps (B := (17, [(0, .ref 61), (1, .ref 39), (2, .int x2), (3, .ref (pl_e 39)), (4, .int x4), (5, .int x5)], [.int (h.1 (pl_e 39) 3), .int x5], h)) 3 rfl ?_
    refine Ev.br (b := decide ((h.1 (pl_e 39) 3) ≤ x5)) rfl (fun c1 => ?_) (fun c1 => ?_)
    · have c1 := of_decide_eq_true c1
      rw [if_pos c1] at hM
      refine Ev.steps (B := (169, [(0, .ref 61), (1, .ref 39), (2, .int x2), (3, .ref (pl_e 39)), (4, .int x4), (5, .int x5)], [.int x4], h)) 1 rfl ?_
      obtain ⟨g2, hM⟩ := am_gS hM
      obtain ⟨rfl, rfl⟩ := am_sp hM
      exact Ev.retg g2 rfl
    · have c1 := of_decide_eq_false c1
      rw [if_neg c1] at hM
      refine Ev.steps (B := (24, [(0, .ref 61), (1, .ref 39), (2, .int x2), (3, .ref (pl_e 39)), (4, .int x4), (5, .int x5)], [.int 8, .int x5], h)) 2 rfl ?_
      refine Ev.br (b := decide (8 ≤ x5)) rfl (fun c3 => ?_) (fun c3 => ?_)
      · have c3 := of_decide_eq_true c3
        rw [if_pos c3] at hM
        refine Ev.steps (B := (169, [(0, .ref 61), (1, .ref 39), (2, .int x2), (3, .ref (pl_e 39)), (4, .int x4), (5, .int x5)], [.int x4], h)) 1 rfl ?_
        obtain ⟨g4, hM⟩ := am_gS hM
        obtain ⟨rfl, rfl⟩ := am_sp hM
        exact Ev.retg g4 rfl
      · have c3 := of_decide_eq_false c3
        rw [if_neg c3] at hM
        refine Ev.steps (B := (33, [(0, .ref 61), (1, .ref 39), (2, .int x2), (3, .ref (pl_e 39)), (4, .int x4), (5, .int x5)], [.int x5, .ref ((pl_e 39) + 1)], h)) 3 rfl ?_
        obtain ⟨g5, hM⟩ := am_gS hM
        refine Ev.g (B := (34, [(0, .ref 61), (1, .ref 39), (2, .int x2), (3, .ref (pl_e 39)), (4, .int x4), (5, .int x5)], [.int ((h.2.1 ((pl_e 39) + 1)) (Int32.toNatClampNeg x5))], h)) g5 rfl ?_
        refine Ev.steps (B := (35, [(0, .ref 61), (1, .ref 39), (2, .int x2), (3, .ref (pl_e 39)), (4, .int x4), (5, .int x5)], [.int x2, .int ((h.2.1 ((pl_e 39) + 1)) (Int32.toNatClampNeg x5))], h)) 1 rfl ?_
        refine Ev.br (b := decide (¬ ((h.2.1 ((pl_e 39) + 1)) (Int32.toNatClampNeg x5)) = x2)) rfl (fun c6 => ?_) (fun c6 => ?_)
        · have c6 := of_decide_eq_true c6
          rw [if_neg c6] at hM
          refine Ev.steps (B := (11, [(5, .int (x5 + 1)), (0, .ref 61), (1, .ref 39), (2, .int x2), (3, .ref (pl_e 39)), (4, .int x4)], [], h)) 2 rfl ?_
          refine Ev.lv (lv := [(0, .ref 61), (1, .ref 39), (2, .int x2), (3, .ref (pl_e 39)), (4, .int x4), (5, .int (x5 + 1))]) ⟨rfl, rfl, rfl, rfl, rfl, rfl, trivial⟩ rfl rfl ?_
          exact ih x2 x4 (x5 + 1) h hM
        · have c6 := Decidable.of_not_not (of_decide_eq_false c6)
          rw [if_pos c6] at hM
          refine Ev.steps (B := (47, [(0, .ref 61), (1, .ref 39), (2, .int x2), (3, .ref (pl_e 39)), (4, .int x4), (5, .int x5)], [.int (((h.1 39 5) >>> (x5 &&& 31)) &&& 1)], h)) 6 rfl ?_
          refine Ev.br (b := decide (¬ (((h.1 39 5) >>> (x5 &&& 31)) &&& 1) = 0)) rfl (fun c7 => ?_) (fun c7 => ?_)
          · have c7 := of_decide_eq_true c7
            rw [if_neg c7] at hM
            refine Ev.steps (B := (11, [(5, .int (x5 + 1)), (0, .ref 61), (1, .ref 39), (2, .int x2), (3, .ref (pl_e 39)), (4, .int x4)], [], h)) 2 rfl ?_
            refine Ev.lv (lv := [(0, .ref 61), (1, .ref 39), (2, .int x2), (3, .ref (pl_e 39)), (4, .int x4), (5, .int (x5 + 1))]) ⟨rfl, rfl, rfl, rfl, rfl, rfl, trivial⟩ rfl rfl ?_
            exact ih x2 x4 (x5 + 1) h hM
          · have c7 := Decidable.of_not_not (of_decide_eq_false c7)
            rw [if_pos c7] at hM
            refine Ev.steps (B := (56, [(0, .ref 61), (1, .ref 39), (2, .int x2), (3, .ref (pl_e 39)), (4, .int x4), (5, .int x5)], [.int x5, .ref ((pl_e 39) + 2)], h)) 3 rfl ?_
            obtain ⟨g8, hM⟩ := am_gS hM
            refine Ev.g (B := (57, [(0, .ref 61), (1, .ref 39), (2, .int x2), (3, .ref (pl_e 39)), (4, .int x4), (5, .int x5)], [.int ((h.2.1 ((pl_e 39) + 2)) (Int32.toNatClampNeg x5))], h)) g8 rfl ?_
            refine Ev.step (B := (am_sel ((h.2.1 ((pl_e 39) + 2)) (Int32.toNatClampNeg x5)) [(0, 84), (1, 134)] 158, [(0, .ref 61), (1, .ref 39), (2, .int x2), (3, .ref (pl_e 39)), (4, .int x4), (5, .int x5)], [], h)) rfl ?_
            refine Ev.sw (fun c9 => ?_) (fun c9 => ?_)
            · rw [if_pos c9] at hM
              refine Ev.steps (B := (90, [(0, .ref 61), (1, .ref 39), (2, .int x2), (3, .ref (pl_e 39)), (4, .int x4), (5, .int x5)], [.int x5, .ref ((pl_e 39) + 3)], h)) 3 rfl ?_
              obtain ⟨g10, hM⟩ := am_gS hM
              refine Ev.g (B := (91, [(0, .ref 61), (1, .ref 39), (2, .int x2), (3, .ref (pl_e 39)), (4, .int x4), (5, .int x5)], [.int ((h.2.1 ((pl_e 39) + 3)) (Int32.toNatClampNeg x5))], h)) g10 rfl ?_
              refine Ev.steps (B := (11, [(5, .int (x5 + 1)), (6, .int (am_min ((h.2.1 ((pl_e 39) + 3)) (Int32.toNatClampNeg x5)) (30 - (h.1 61 1)))), (0, .ref 61), (1, .ref 39), (2, .int x2), (3, .ref (pl_e 39)), (4, .int x4)], [], (am_sf (am_sf h 61 1 ((h.1 61 1) + (am_min ((h.2.1 ((pl_e 39) + 3)) (Int32.toNatClampNeg x5)) (30 - (h.1 61 1))))) 61 0 (am_max 0 ((h.1 61 0) - (4 * (am_min ((h.2.1 ((pl_e 39) + 3)) (Int32.toNatClampNeg x5)) (30 - (h.1 61 1))))))))) 25 rfl ?_
              refine Ev.lv (lv := [(0, .ref 61), (1, .ref 39), (2, .int x2), (3, .ref (pl_e 39)), (4, .int x4), (5, .int (x5 + 1))]) ⟨rfl, rfl, rfl, rfl, rfl, rfl, trivial⟩ rfl rfl ?_
              exact ih x2 x4 (x5 + 1) (am_sf (am_sf h 61 1 ((h.1 61 1) + (am_min ((h.2.1 ((pl_e 39) + 3)) (Int32.toNatClampNeg x5)) (30 - (h.1 61 1))))) 61 0 (am_max 0 ((h.1 61 0) - (4 * (am_min ((h.2.1 ((pl_e 39) + 3)) (Int32.toNatClampNeg x5)) (30 - (h.1 61 1))))))) hM
            · rw [if_neg c9] at hM
              refine Ev.sw (fun c11 => ?_) (fun c11 => ?_)
              · rw [if_pos c11] at hM
                refine Ev.steps (B := (147, [(0, .ref 61), (1, .ref 39), (2, .int x2), (3, .ref (pl_e 39)), (4, .int x4), (5, .int x5)], [.int x5, .ref ((pl_e 39) + 3), .int (h.1 61 2), .int 40, .ref 61], h)) 7 rfl ?_
                obtain ⟨g12, hM⟩ := am_gS hM
                refine Ev.g (B := (148, [(0, .ref 61), (1, .ref 39), (2, .int x2), (3, .ref (pl_e 39)), (4, .int x4), (5, .int x5)], [.int ((h.2.1 ((pl_e 39) + 3)) (Int32.toNatClampNeg x5)), .int (h.1 61 2), .int 40, .ref 61], h)) g12 rfl ?_
                refine Ev.steps (B := (11, [(5, .int (x5 + 1)), (0, .ref 61), (1, .ref 39), (2, .int x2), (3, .ref (pl_e 39)), (4, .int x4)], [], (am_sf h 61 2 (am_min 40 ((h.1 61 2) + ((h.2.1 ((pl_e 39) + 3)) (Int32.toNatClampNeg x5))))))) 6 rfl ?_
                refine Ev.lv (lv := [(0, .ref 61), (1, .ref 39), (2, .int x2), (3, .ref (pl_e 39)), (4, .int x4), (5, .int (x5 + 1))]) ⟨rfl, rfl, rfl, rfl, rfl, rfl, trivial⟩ rfl rfl ?_
                exact ih x2 x4 (x5 + 1) (am_sf h 61 2 (am_min 40 ((h.1 61 2) + ((h.2.1 ((pl_e 39) + 3)) (Int32.toNatClampNeg x5))))) hM
              · rw [if_neg c11] at hM
                refine Ev.steps (B := (11, [(5, .int (x5 + 1)), (4, .int 1), (0, .ref 61), (1, .ref 39), (2, .int x2), (3, .ref (pl_e 39))], [], h)) 4 rfl ?_
                refine Ev.lv (lv := [(0, .ref 61), (1, .ref 39), (2, .int x2), (3, .ref (pl_e 39)), (4, .int 1), (5, .int (x5 + 1))]) ⟨rfl, rfl, rfl, rfl, rfl, rfl, trivial⟩ rfl rfl ?_
                exact ih x2 1 (x5 + 1) h hM
set_option maxRecDepth 10000 in
theorem E_X3_meet_61_39 (n : Nat) (a2 : Int32) (h : AH) (vR : Int32) (hR : AH) (hM : M_X3_meet n 61 39 a2 h = some (vR, hR)) : Ev none mr_X3_meet (0, [(0, .ref 61), (1, .ref 39), (2, .int a2)], [], h) (some (.int vR)) hR := by
  unfold M_X3_meet at hM
  refine Ev.steps (B := (11, [(5, .int 0), (4, .int 0), (3, .ref (pl_e 39)), (0, .ref 61), (1, .ref 39), (2, .int a2)], [], h)) 7 rfl ?_
  refine Ev.lv (lv := [(0, .ref 61), (1, .ref 39), (2, .int a2), (3, .ref (pl_e 39)), (4, .int 0), (5, .int 0)]) ⟨rfl, rfl, rfl, rfl, rfl, rfl, trivial⟩ rfl rfl ?_
  exact E_L_X3_meet_11_61_39 n vR hR n a2 0 0 h hM
set_option maxRecDepth 10000 in
theorem E_X3_warm_61 (a1 : Int32) (h : AH) (hR : AH) (hM : M_X3_warm 61 a1 h = some hR) : Ev none mr_X3_warm (0, [(0, .ref 61), (1, .int a1)], [], h) none hR := by
  unfold M_X3_warm at hM
  refine Ev.steps (B := (34, [(0, .ref 61), (1, .int a1)], [.int 100, .int (am_min 100 (am_max 0 ((((h.1 61 0) + a1) - 2) - ((h.1 61 1) / 5))))], (am_sf h 61 0 (am_min 100 (am_max 0 ((((h.1 61 0) + a1) - 2) - ((h.1 61 1) / 5))))))) 20 rfl ?_
  refine Ev.br (b := decide (¬ (am_min 100 (am_max 0 ((((h.1 61 0) + a1) - 2) - ((h.1 61 1) / 5)))) = 100)) rfl (fun c1 => ?_) (fun c1 => ?_)
  · have c1 := of_decide_eq_true c1
    rw [if_neg c1] at hM
    obtain rfl := am_s1 hM
    exact Ev.ret rfl
  · have c1 := Decidable.of_not_not (of_decide_eq_false c1)
    rw [if_pos c1] at hM
    refine Ev.steps (B := (41, [(0, .ref 61), (1, .int a1)], [.int (h.1 61 1)], (am_sf h 61 0 (am_min 100 (am_max 0 ((((h.1 61 0) + a1) - 2) - ((h.1 61 1) / 5))))))) 2 rfl ?_
    refine Ev.br (b := decide ((h.1 61 1) ≤ 0)) rfl (fun c2 => ?_) (fun c2 => ?_)
    · have c2 := of_decide_eq_true c2
      rw [if_pos c2] at hM
      obtain rfl := am_s1 hM
      exact Ev.ret rfl
    · have c2 := of_decide_eq_false c2
      rw [if_neg c2] at hM
      refine Ev.steps (B := (64, [(0, .ref 61), (1, .int a1)], [], (am_sf (am_sf (am_sf h 61 0 (am_min 100 (am_max 0 ((((h.1 61 0) + a1) - 2) - ((h.1 61 1) / 5))))) 61 1 ((h.1 61 1) - 1)) 61 3 ((h.1 61 3) + 1)))) 12 rfl ?_
      obtain rfl := am_s1 hM
      exact Ev.ret rfl
set_option maxRecDepth 10000 in
theorem E_X3_boils_61 (h : AH) : Ev none mr_X3_boils (0, [(0, .ref 61)], [], h) (some (.int (M_X3_boils 61 h))) h := by
  unfold M_X3_boils
  refine Ev.steps (B := (6, [(0, .ref 61)], [.int 80, .int (h.1 61 0)], h)) 3 rfl ?_
  refine Ev.br (b := decide ((h.1 61 0) < 80)) rfl (fun c1 => ?_) (fun c1 => ?_)
  · have c1 := of_decide_eq_true c1
    rw [if_pos c1]
    refine Ev.steps (B := (21, [(0, .ref 61)], [.int 0], h)) 1 rfl ?_
    exact Ev.ret rfl
  · have c1 := of_decide_eq_false c1
    rw [if_neg c1]
    refine Ev.steps (B := (13, [(0, .ref 61)], [.int (h.1 61 1)], h)) 2 rfl ?_
    refine Ev.br (b := decide ((h.1 61 1) ≤ 0)) rfl (fun c2 => ?_) (fun c2 => ?_)
    · have c2 := of_decide_eq_true c2
      rw [if_pos c2]
      refine Ev.steps (B := (21, [(0, .ref 61)], [.int 0], h)) 1 rfl ?_
      exact Ev.ret rfl
    · have c2 := of_decide_eq_false c2
      rw [if_neg c2]
      refine Ev.steps (B := (21, [(0, .ref 61)], [.int 1], h)) 2 rfl ?_
      exact Ev.ret rfl
set_option maxRecDepth 10000 in
theorem E_X0_join_62 (a1 : Int32) (a2 : Int32) (h : AH) (hR : AH) (hM : M_X0_join 62 a1 a2 h = some hR) : Ev none mr_X0_join (0, [(0, .ref 62), (1, .int a1), (2, .int a2)], [], h) none hR := by
  unfold M_X0_join at hM
  refine Ev.steps (B := (1, [(0, .ref 62), (1, .int a1), (2, .int a2)], [.int a1], h)) 1 rfl ?_
  refine Ev.br (b := decide (a1 < 0)) rfl (fun c1 => ?_) (fun c1 => ?_)
  · have c1 := of_decide_eq_true c1
    rw [if_pos c1] at hM
    obtain rfl := am_s1 hM
    exact Ev.ret rfl
  · have c1 := of_decide_eq_false c1
    rw [if_neg c1] at hM
    refine Ev.steps (B := (7, [(0, .ref 62), (1, .int a1), (2, .int a2)], [.int 8, .int a1], h)) 2 rfl ?_
    refine Ev.br (b := decide (a1 < 8)) rfl (fun c2 => ?_) (fun c2 => ?_)
    · have c2 := of_decide_eq_true c2
      rw [if_pos c2] at hM
      refine Ev.steps (B := (17, [(0, .ref 62), (1, .int a1), (2, .int a2)], [.int 1, .int a1, .ref (62 + 1)], h)) 4 rfl ?_
      obtain ⟨g3, hM⟩ := am_gS hM
      refine Ev.g (B := (18, [(0, .ref 62), (1, .int a1), (2, .int a2)], [], (am_sa h (62 + 1) (upd (h.2.1 (62 + 1)) (Int32.toNatClampNeg a1) 1)))) g3 rfl ?_
      refine Ev.steps (B := (24, [(0, .ref 62), (1, .int a1), (2, .int a2)], [.int a2, .int a1, .ref (62 + 3)], (am_sa h (62 + 1) (upd (h.2.1 (62 + 1)) (Int32.toNatClampNeg a1) 1)))) 4 rfl ?_
      obtain ⟨g4, hM⟩ := am_gS hM
      refine Ev.g (B := (25, [(0, .ref 62), (1, .int a1), (2, .int a2)], [], (am_sa (am_sa h (62 + 1) (upd (h.2.1 (62 + 1)) (Int32.toNatClampNeg a1) 1)) (62 + 3) (upd (h.2.1 (62 + 3)) (Int32.toNatClampNeg a1) a2)))) g4 rfl ?_
      refine Ev.steps (B := (34, [(0, .ref 62), (1, .int a1), (2, .int a2)], [.int (h.1 62 4), .int a1, .ref (62 + 4)], (am_sa (am_sa h (62 + 1) (upd (h.2.1 (62 + 1)) (Int32.toNatClampNeg a1) 1)) (62 + 3) (upd (h.2.1 (62 + 3)) (Int32.toNatClampNeg a1) a2)))) 5 rfl ?_
      obtain ⟨g5, hM⟩ := am_gS hM
      refine Ev.g (B := (35, [(0, .ref 62), (1, .int a1), (2, .int a2)], [], (am_sa (am_sa (am_sa h (62 + 1) (upd (h.2.1 (62 + 1)) (Int32.toNatClampNeg a1) 1)) (62 + 3) (upd (h.2.1 (62 + 3)) (Int32.toNatClampNeg a1) a2)) (62 + 4) (upd (h.2.1 (62 + 4)) (Int32.toNatClampNeg a1) (h.1 62 4))))) g5 rfl ?_
      refine Ev.steps (B := (55, [(0, .ref 62), (1, .int a1), (2, .int a2)], [], (am_sf (am_sf (am_sa (am_sa (am_sa h (62 + 1) (upd (h.2.1 (62 + 1)) (Int32.toNatClampNeg a1) 1)) (62 + 3) (upd (h.2.1 (62 + 3)) (Int32.toNatClampNeg a1) a2)) (62 + 4) (upd (h.2.1 (62 + 4)) (Int32.toNatClampNeg a1) (h.1 62 4))) 62 4 ((h.1 62 4) + 1)) 62 5 ((h.1 62 5) + 1)))) 12 rfl ?_
      obtain rfl := am_s1 hM
      exact Ev.ret rfl
    · have c2 := of_decide_eq_false c2
      rw [if_neg c2] at hM
      obtain rfl := am_s1 hM
      exact Ev.ret rfl
set_option maxRecDepth 10000 in
theorem E_L_X0_lineUp_40_62_44 (n : Nat) (hR : AH) : ∀ (m : Nat) (x2 : Int32) (x3 : Int32) (h : AH), L_X0_lineUp_40 n 62 44 m x2 x3 h = some hR → Ev none mr_X0_lineUp (40, [(0, .ref 62), (1, .ref 44), (2, .int x2), (3, .int x3)], [], h) none hR := by
  intro m
  induction m with
  | zero =>
    intro x2 x3 h hM
    exact (am_no hM).elim
  | succ m ih =>
    intro x2 x3 h hM
    rw [L_X0_lineUp_40] at hM
    refine Ev.steps (B := (45, [(0, .ref 62), (1, .ref 44), (2, .int x2), (3, .int x3)], [.int (h.1 44 3), .int x3], h)) 3 rfl ?_
    refine Ev.br (b := decide ((h.1 44 3) ≤ x3)) rfl (fun c1 => ?_) (fun c1 => ?_)
    · have c1 := of_decide_eq_true c1
      rw [if_pos c1] at hM
      obtain rfl := am_s1 hM
      exact Ev.ret rfl
    · have c1 := of_decide_eq_false c1
      rw [if_neg c1] at hM
      refine Ev.steps (B := (51, [(0, .ref 62), (1, .ref 44), (2, .int x2), (3, .int x3)], [.int 8, .int x3], h)) 2 rfl ?_
      refine Ev.br (b := decide (8 ≤ x3)) rfl (fun c2 => ?_) (fun c2 => ?_)
      · have c2 := of_decide_eq_true c2
        rw [if_pos c2] at hM
        obtain rfl := am_s1 hM
        exact Ev.ret rfl
      · have c2 := of_decide_eq_false c2
        rw [if_neg c2] at hM
        refine Ev.steps (B := (59, [(0, .ref 62), (1, .ref 44), (2, .int x2), (3, .int x3)], [.int x3, .ref (62 + 1)], h)) 3 rfl ?_
        obtain ⟨g3, hM⟩ := am_gS hM
        refine Ev.g (B := (60, [(0, .ref 62), (1, .ref 44), (2, .int x2), (3, .int x3)], [.int ((h.2.1 (62 + 1)) (Int32.toNatClampNeg x3))], h)) g3 rfl ?_
        refine Ev.steps (B := (61, [(0, .ref 62), (1, .ref 44), (2, .int x2), (3, .int x3)], [.int 2, .int ((h.2.1 (62 + 1)) (Int32.toNatClampNeg x3))], h)) 1 rfl ?_
        refine Ev.br (b := decide (¬ ((h.2.1 (62 + 1)) (Int32.toNatClampNeg x3)) = 2)) rfl (fun c4 => ?_) (fun c4 => ?_)
        · have c4 := of_decide_eq_true c4
          rw [if_neg c4] at hM
          refine Ev.steps (B := (40, [(3, .int (x3 + 1)), (0, .ref 62), (1, .ref 44), (2, .int x2)], [], h)) 2 rfl ?_
          refine Ev.lv (lv := [(0, .ref 62), (1, .ref 44), (2, .int x2), (3, .int (x3 + 1))]) ⟨rfl, rfl, rfl, rfl, trivial⟩ rfl rfl ?_
          exact ih x2 (x3 + 1) h hM
        · have c4 := Decidable.of_not_not (of_decide_eq_false c4)
          rw [if_pos c4] at hM
          refine Ev.steps (B := (69, [(0, .ref 62), (1, .ref 44), (2, .int x2), (3, .int x3)], [.int x3, .ref (62 + 3)], h)) 3 rfl ?_
          obtain ⟨g5, hM⟩ := am_gS hM
          refine Ev.g (B := (70, [(0, .ref 62), (1, .ref 44), (2, .int x2), (3, .int x3)], [.int ((h.2.1 (62 + 3)) (Int32.toNatClampNeg x3))], h)) g5 rfl ?_
          refine Ev.steps (B := (77, [(0, .ref 62), (1, .ref 44), (2, .int x2), (3, .int x3)], [.int x3, .ref (44 + 2), .int (((h.2.1 (62 + 3)) (Int32.toNatClampNeg x3)) + 3)], h)) 5 rfl ?_
          obtain ⟨g6, hM⟩ := am_gS hM
          refine Ev.g (B := (78, [(0, .ref 62), (1, .ref 44), (2, .int x2), (3, .int x3)], [.int ((h.2.1 (44 + 2)) (Int32.toNatClampNeg x3)), .int (((h.2.1 (62 + 3)) (Int32.toNatClampNeg x3)) + 3)], h)) g6 rfl ?_
          refine Ev.steps (B := (80, [(0, .ref 62), (1, .ref 44), (2, .int x2), (3, .int x3)], [.int x2, .int ((((h.2.1 (62 + 3)) (Int32.toNatClampNeg x3)) + 3) + ((h.2.1 (44 + 2)) (Int32.toNatClampNeg x3)))], h)) 2 rfl ?_
          refine Ev.br (b := decide (¬ ((((h.2.1 (62 + 3)) (Int32.toNatClampNeg x3)) + 3) + ((h.2.1 (44 + 2)) (Int32.toNatClampNeg x3))) = x2)) rfl (fun c7 => ?_) (fun c7 => ?_)
          · have c7 := of_decide_eq_true c7
            rw [if_neg c7] at hM
            refine Ev.steps (B := (40, [(3, .int (x3 + 1)), (0, .ref 62), (1, .ref 44), (2, .int x2)], [], h)) 2 rfl ?_
            refine Ev.lv (lv := [(0, .ref 62), (1, .ref 44), (2, .int x2), (3, .int (x3 + 1))]) ⟨rfl, rfl, rfl, rfl, trivial⟩ rfl rfl ?_
            exact ih x2 (x3 + 1) h hM
          · have c7 := Decidable.of_not_not (of_decide_eq_false c7)
            rw [if_pos c7] at hM
            refine Ev.steps (B := (86, [(0, .ref 62), (1, .ref 44), (2, .int x2), (3, .int x3)], [.int x2, .int x3, .ref 62], h)) 3 rfl ?_
            obtain ⟨h1, e8, hM⟩ := am_vS hM
            refine Ev.call (q := (mr_X0_join, [.ref 62, .int x3, .int x2], [])) rfl (E_X0_join_62 x3 x2 h h1 e8) ?_
            refine Ev.steps (B := (40, [(3, .int (x3 + 1)), (0, .ref 62), (1, .ref 44), (2, .int x2)], [], h1)) 2 rfl ?_
            refine Ev.lv (lv := [(0, .ref 62), (1, .ref 44), (2, .int x2), (3, .int (x3 + 1))]) ⟨rfl, rfl, rfl, rfl, trivial⟩ rfl rfl ?_
            exact ih x2 (x3 + 1) h1 hM
set_option maxRecDepth 10000 in
theorem E_L_X0_lineUp_2_62_44 (n : Nat) (hR : AH) : ∀ (m : Nat) (x2 : Int32) (x3 : Int32) (h : AH), L_X0_lineUp_2 n 62 44 m x2 x3 h = some hR → Ev none mr_X0_lineUp (2, [(0, .ref 62), (1, .ref 44), (2, .int x2), (3, .int x3)], [], h) none hR := by
  intro m
  induction m with
  | zero =>
    intro x2 x3 h hM
    exact (am_no hM).elim
  | succ m ih =>
    intro x2 x3 h hM
    rw [L_X0_lineUp_2] at hM
    refine Ev.steps (B := (7, [(0, .ref 62), (1, .ref 44), (2, .int x2), (3, .int x3)], [.int (h.1 44 3), .int x3], h)) 3 rfl ?_
    refine Ev.br (b := decide ((h.1 44 3) ≤ x3)) rfl (fun c1 => ?_) (fun c1 => ?_)
    · have c1 := of_decide_eq_true c1
      rw [if_pos c1] at hM
      refine Ev.steps (B := (40, [(3, .int 0), (0, .ref 62), (1, .ref 44), (2, .int x2)], [], h)) 2 rfl ?_
      refine Ev.lv (lv := [(0, .ref 62), (1, .ref 44), (2, .int x2), (3, .int 0)]) ⟨rfl, rfl, rfl, rfl, trivial⟩ rfl rfl ?_
      exact E_L_X0_lineUp_40_62_44 n hR n x2 0 h hM
    · have c1 := of_decide_eq_false c1
      rw [if_neg c1] at hM
      refine Ev.steps (B := (13, [(0, .ref 62), (1, .ref 44), (2, .int x2), (3, .int x3)], [.int 8, .int x3], h)) 2 rfl ?_
      refine Ev.br (b := decide (8 ≤ x3)) rfl (fun c2 => ?_) (fun c2 => ?_)
      · have c2 := of_decide_eq_true c2
        rw [if_pos c2] at hM
        refine Ev.steps (B := (40, [(3, .int 0), (0, .ref 62), (1, .ref 44), (2, .int x2)], [], h)) 2 rfl ?_
        refine Ev.lv (lv := [(0, .ref 62), (1, .ref 44), (2, .int x2), (3, .int 0)]) ⟨rfl, rfl, rfl, rfl, trivial⟩ rfl rfl ?_
        exact E_L_X0_lineUp_40_62_44 n hR n x2 0 h hM
      · have c2 := of_decide_eq_false c2
        rw [if_neg c2] at hM
        refine Ev.steps (B := (21, [(0, .ref 62), (1, .ref 44), (2, .int x2), (3, .int x3)], [.int x3, .ref (44 + 1)], h)) 3 rfl ?_
        obtain ⟨g3, hM⟩ := am_gS hM
        refine Ev.g (B := (22, [(0, .ref 62), (1, .ref 44), (2, .int x2), (3, .int x3)], [.int ((h.2.1 (44 + 1)) (Int32.toNatClampNeg x3))], h)) g3 rfl ?_
        refine Ev.steps (B := (23, [(0, .ref 62), (1, .ref 44), (2, .int x2), (3, .int x3)], [.int x2, .int ((h.2.1 (44 + 1)) (Int32.toNatClampNeg x3))], h)) 1 rfl ?_
        refine Ev.br (b := decide (¬ ((h.2.1 (44 + 1)) (Int32.toNatClampNeg x3)) = x2)) rfl (fun c4 => ?_) (fun c4 => ?_)
        · have c4 := of_decide_eq_true c4
          rw [if_neg c4] at hM
          refine Ev.steps (B := (2, [(3, .int (x3 + 1)), (0, .ref 62), (1, .ref 44), (2, .int x2)], [], h)) 2 rfl ?_
          refine Ev.lv (lv := [(0, .ref 62), (1, .ref 44), (2, .int x2), (3, .int (x3 + 1))]) ⟨rfl, rfl, rfl, rfl, trivial⟩ rfl rfl ?_
          exact ih x2 (x3 + 1) h hM
        · have c4 := Decidable.of_not_not (of_decide_eq_false c4)
          rw [if_pos c4] at hM
          refine Ev.steps (B := (29, [(0, .ref 62), (1, .ref 44), (2, .int x2), (3, .int x3)], [.int x2, .int x3, .ref 62], h)) 3 rfl ?_
          obtain ⟨h1, e5, hM⟩ := am_vS hM
          refine Ev.call (q := (mr_X0_join, [.ref 62, .int x3, .int x2], [])) rfl (E_X0_join_62 x3 x2 h h1 e5) ?_
          refine Ev.steps (B := (2, [(3, .int (x3 + 1)), (0, .ref 62), (1, .ref 44), (2, .int x2)], [], h1)) 2 rfl ?_
          refine Ev.lv (lv := [(0, .ref 62), (1, .ref 44), (2, .int x2), (3, .int (x3 + 1))]) ⟨rfl, rfl, rfl, rfl, trivial⟩ rfl rfl ?_
          exact ih x2 (x3 + 1) h1 hM
set_option maxRecDepth 10000 in
theorem E_X0_lineUp_62_44 (n : Nat) (a2 : Int32) (h : AH) (hR : AH) (hM : M_X0_lineUp n 62 44 a2 h = some hR) : Ev none mr_X0_lineUp (0, [(0, .ref 62), (1, .ref 44), (2, .int a2)], [], h) none hR := by
  unfold M_X0_lineUp at hM
  refine Ev.steps (B := (2, [(3, .int 0), (0, .ref 62), (1, .ref 44), (2, .int a2)], [], h)) 2 rfl ?_
  refine Ev.lv (lv := [(0, .ref 62), (1, .ref 44), (2, .int a2), (3, .int 0)]) ⟨rfl, rfl, rfl, rfl, trivial⟩ rfl rfl ?_
  exact E_L_X0_lineUp_2_62_44 n hR n a2 0 h hM
set_option maxRecDepth 10000 in
theorem E_B_X0_serve_83_62_44_61 (n : Nat) (vR : Int32) (hR : AH) (x3 : Int32) (x4 : Int32) (h : AH) (hM : B_X0_serve_83 n 62 44 61 x3 x4 h = some (vR, hR)) : Ev none mr_X0_serve (83, [(0, .ref 62), (1, .ref 44), (2, .ref 61), (3, .int x3), (4, .int x4)], [], h) (some (.int vR)) hR := by
  unfold B_X0_serve_83 at hM
  refine Ev.steps (B := (85, [(0, .ref 62), (1, .ref 44), (2, .ref 61), (3, .int x3), (4, .int x4)], [.int x4], h)) 1 rfl ?_
  refine Ev.br (b := decide (0 ≤ x4)) rfl (fun c1 => ?_) (fun c1 => ?_)
  · have c1 := of_decide_eq_true c1
    rw [if_pos c1] at hM
    refine Ev.steps (B := (103, [(0, .ref 62), (1, .ref 44), (2, .ref 61), (3, .int x3), (4, .int x4)], [.int x4, .ref (44 + 2), .int 2, .int 1, .int (h.1 61 2), .ref 61], h)) 8 rfl ?_
    obtain ⟨g2, hM⟩ := am_gS hM
    refine Ev.g (B := (104, [(0, .ref 62), (1, .ref 44), (2, .ref 61), (3, .int x3), (4, .int x4)], [.int ((h.2.1 (44 + 2)) (Int32.toNatClampNeg x4)), .int 2, .int 1, .int (h.1 61 2), .ref 61], h)) g2 rfl ?_
    refine Ev.steps (B := (127, [(0, .ref 62), (1, .ref 44), (2, .ref 61), (3, .int x3), (4, .int x4)], [.int x4, .ref (62 + 2), .int x4, .ref (62 + 2)], (am_sf (am_sf h 61 2 ((h.1 61 2) - (1 + (2 * ((h.2.1 (44 + 2)) (Int32.toNatClampNeg x4)))))) 61 1 ((h.1 61 1) - 1)))) 14 rfl ?_
    obtain ⟨g3, hM⟩ := am_gS hM
    refine Ev.g (B := (128, [(0, .ref 62), (1, .ref 44), (2, .ref 61), (3, .int x3), (4, .int x4)], [.int ((h.2.1 (62 + 2)) (Int32.toNatClampNeg x4)), .int x4, .ref (62 + 2)], (am_sf (am_sf h 61 2 ((h.1 61 2) - (1 + (2 * ((h.2.1 (44 + 2)) (Int32.toNatClampNeg x4)))))) 61 1 ((h.1 61 1) - 1)))) g3 rfl ?_
    refine Ev.steps (B := (130, [(0, .ref 62), (1, .ref 44), (2, .ref 61), (3, .int x3), (4, .int x4)], [.int (((h.2.1 (62 + 2)) (Int32.toNatClampNeg x4)) + 1), .int x4, .ref (62 + 2)], (am_sf (am_sf h 61 2 ((h.1 61 2) - (1 + (2 * ((h.2.1 (44 + 2)) (Int32.toNatClampNeg x4)))))) 61 1 ((h.1 61 1) - 1)))) 2 rfl ?_
    obtain ⟨g4, hM⟩ := am_gS hM
    refine Ev.g (B := (131, [(0, .ref 62), (1, .ref 44), (2, .ref 61), (3, .int x3), (4, .int x4)], [], (am_sa (am_sf (am_sf h 61 2 ((h.1 61 2) - (1 + (2 * ((h.2.1 (44 + 2)) (Int32.toNatClampNeg x4)))))) 61 1 ((h.1 61 1) - 1)) (62 + 2) (upd (h.2.1 (62 + 2)) (Int32.toNatClampNeg x4) (((h.2.1 (62 + 2)) (Int32.toNatClampNeg x4)) + 1))))) g4 rfl ?_
    refine Ev.steps (B := (138, [(0, .ref 62), (1, .ref 44), (2, .ref 61), (3, .int x3), (4, .int x4)], [.int x3, .int x4, .ref (62 + 3)], (am_sa (am_sf (am_sf h 61 2 ((h.1 61 2) - (1 + (2 * ((h.2.1 (44 + 2)) (Int32.toNatClampNeg x4)))))) 61 1 ((h.1 61 1) - 1)) (62 + 2) (upd (h.2.1 (62 + 2)) (Int32.toNatClampNeg x4) (((h.2.1 (62 + 2)) (Int32.toNatClampNeg x4)) + 1))))) 4 rfl ?_
    obtain ⟨g5, hM⟩ := am_gS hM
    refine Ev.g (B := (139, [(0, .ref 62), (1, .ref 44), (2, .ref 61), (3, .int x3), (4, .int x4)], [], (am_sa (am_sa (am_sf (am_sf h 61 2 ((h.1 61 2) - (1 + (2 * ((h.2.1 (44 + 2)) (Int32.toNatClampNeg x4)))))) 61 1 ((h.1 61 1) - 1)) (62 + 2) (upd (h.2.1 (62 + 2)) (Int32.toNatClampNeg x4) (((h.2.1 (62 + 2)) (Int32.toNatClampNeg x4)) + 1))) (62 + 3) (upd (h.2.1 (62 + 3)) (Int32.toNatClampNeg x4) x3)))) g5 rfl ?_
    refine Ev.steps (B := (165, [(0, .ref 62), (1, .ref 44), (2, .ref 61), (3, .int x3), (4, .int x4)], [.int x4, .ref (62 + 2)], (am_sf (am_sf (am_sa (am_sa (am_sf (am_sf h 61 2 ((h.1 61 2) - (1 + (2 * ((h.2.1 (44 + 2)) (Int32.toNatClampNeg x4)))))) 61 1 ((h.1 61 1) - 1)) (62 + 2) (upd (h.2.1 (62 + 2)) (Int32.toNatClampNeg x4) (((h.2.1 (62 + 2)) (Int32.toNatClampNeg x4)) + 1))) (62 + 3) (upd (h.2.1 (62 + 3)) (Int32.toNatClampNeg x4) x3)) 62 5 ((h.1 62 5) - 1)) 62 6 ((h.1 62 6) + 1)))) 15 rfl ?_
    obtain ⟨g6, hM⟩ := am_gS hM
    refine Ev.g (B := (166, [(0, .ref 62), (1, .ref 44), (2, .ref 61), (3, .int x3), (4, .int x4)], [.int ((upd (h.2.1 (62 + 2)) (Int32.toNatClampNeg x4) (((h.2.1 (62 + 2)) (Int32.toNatClampNeg x4)) + 1)) (Int32.toNatClampNeg x4))], (am_sf (am_sf (am_sa (am_sa (am_sf (am_sf h 61 2 ((h.1 61 2) - (1 + (2 * ((h.2.1 (44 + 2)) (Int32.toNatClampNeg x4)))))) 61 1 ((h.1 61 1) - 1)) (62 + 2) (upd (h.2.1 (62 + 2)) (Int32.toNatClampNeg x4) (((h.2.1 (62 + 2)) (Int32.toNatClampNeg x4)) + 1))) (62 + 3) (upd (h.2.1 (62 + 3)) (Int32.toNatClampNeg x4) x3)) 62 5 ((h.1 62 5) - 1)) 62 6 ((h.1 62 6) + 1)))) g6 rfl ?_
    refine Ev.steps (B := (172, [(0, .ref 62), (1, .ref 44), (2, .ref 61), (3, .int x3), (4, .int x4)], [.int x4, .ref (44 + 3), .int ((upd (h.2.1 (62 + 2)) (Int32.toNatClampNeg x4) (((h.2.1 (62 + 2)) (Int32.toNatClampNeg x4)) + 1)) (Int32.toNatClampNeg x4))], (am_sf (am_sf (am_sa (am_sa (am_sf (am_sf h 61 2 ((h.1 61 2) - (1 + (2 * ((h.2.1 (44 + 2)) (Int32.toNatClampNeg x4)))))) 61 1 ((h.1 61 1) - 1)) (62 + 2) (upd (h.2.1 (62 + 2)) (Int32.toNatClampNeg x4) (((h.2.1 (62 + 2)) (Int32.toNatClampNeg x4)) + 1))) (62 + 3) (upd (h.2.1 (62 + 3)) (Int32.toNatClampNeg x4) x3)) 62 5 ((h.1 62 5) - 1)) 62 6 ((h.1 62 6) + 1)))) 3 rfl ?_
    obtain ⟨g7, hM⟩ := am_gS hM
    refine Ev.g (B := (173, [(0, .ref 62), (1, .ref 44), (2, .ref 61), (3, .int x3), (4, .int x4)], [.int ((h.2.1 (44 + 3)) (Int32.toNatClampNeg x4)), .int ((upd (h.2.1 (62 + 2)) (Int32.toNatClampNeg x4) (((h.2.1 (62 + 2)) (Int32.toNatClampNeg x4)) + 1)) (Int32.toNatClampNeg x4))], (am_sf (am_sf (am_sa (am_sa (am_sf (am_sf h 61 2 ((h.1 61 2) - (1 + (2 * ((h.2.1 (44 + 2)) (Int32.toNatClampNeg x4)))))) 61 1 ((h.1 61 1) - 1)) (62 + 2) (upd (h.2.1 (62 + 2)) (Int32.toNatClampNeg x4) (((h.2.1 (62 + 2)) (Int32.toNatClampNeg x4)) + 1))) (62 + 3) (upd (h.2.1 (62 + 3)) (Int32.toNatClampNeg x4) x3)) 62 5 ((h.1 62 5) - 1)) 62 6 ((h.1 62 6) + 1)))) g7 rfl ?_
    refine Ev.br (b := decide (((upd (h.2.1 (62 + 2)) (Int32.toNatClampNeg x4) (((h.2.1 (62 + 2)) (Int32.toNatClampNeg x4)) + 1)) (Int32.toNatClampNeg x4)) < ((h.2.1 (44 + 3)) (Int32.toNatClampNeg x4)))) rfl (fun c8 => ?_) (fun c8 => ?_)
    · have c8 := of_decide_eq_true c8
      rw [if_pos c8] at hM
      refine Ev.steps (B := (207, [(0, .ref 62), (1, .ref 44), (2, .ref 61), (3, .int x3), (4, .int x4)], [.int 2, .int x4, .ref (62 + 1)], (am_sf (am_sf (am_sa (am_sa (am_sf (am_sf h 61 2 ((h.1 61 2) - (1 + (2 * ((h.2.1 (44 + 2)) (Int32.toNatClampNeg x4)))))) 61 1 ((h.1 61 1) - 1)) (62 + 2) (upd (h.2.1 (62 + 2)) (Int32.toNatClampNeg x4) (((h.2.1 (62 + 2)) (Int32.toNatClampNeg x4)) + 1))) (62 + 3) (upd (h.2.1 (62 + 3)) (Int32.toNatClampNeg x4) x3)) 62 5 ((h.1 62 5) - 1)) 62 6 ((h.1 62 6) + 1)))) 4 rfl ?_
      obtain ⟨g9, hM⟩ := am_gS hM
      refine Ev.g (B := (208, [(0, .ref 62), (1, .ref 44), (2, .ref 61), (3, .int x3), (4, .int x4)], [], (am_sa (am_sf (am_sf (am_sa (am_sa (am_sf (am_sf h 61 2 ((h.1 61 2) - (1 + (2 * ((h.2.1 (44 + 2)) (Int32.toNatClampNeg x4)))))) 61 1 ((h.1 61 1) - 1)) (62 + 2) (upd (h.2.1 (62 + 2)) (Int32.toNatClampNeg x4) (((h.2.1 (62 + 2)) (Int32.toNatClampNeg x4)) + 1))) (62 + 3) (upd (h.2.1 (62 + 3)) (Int32.toNatClampNeg x4) x3)) 62 5 ((h.1 62 5) - 1)) 62 6 ((h.1 62 6) + 1)) (62 + 1) (upd (h.2.1 (62 + 1)) (Int32.toNatClampNeg x4) 2)))) g9 rfl ?_
      refine Ev.steps (B := (210, [(0, .ref 62), (1, .ref 44), (2, .ref 61), (3, .int x3), (4, .int x4)], [.int x4], (am_sa (am_sf (am_sf (am_sa (am_sa (am_sf (am_sf h 61 2 ((h.1 61 2) - (1 + (2 * ((h.2.1 (44 + 2)) (Int32.toNatClampNeg x4)))))) 61 1 ((h.1 61 1) - 1)) (62 + 2) (upd (h.2.1 (62 + 2)) (Int32.toNatClampNeg x4) (((h.2.1 (62 + 2)) (Int32.toNatClampNeg x4)) + 1))) (62 + 3) (upd (h.2.1 (62 + 3)) (Int32.toNatClampNeg x4) x3)) 62 5 ((h.1 62 5) - 1)) 62 6 ((h.1 62 6) + 1)) (62 + 1) (upd (h.2.1 (62 + 1)) (Int32.toNatClampNeg x4) 2)))) 1 rfl ?_
      obtain ⟨rfl, rfl⟩ := am_sp hM
      exact Ev.ret rfl
    · have c8 := of_decide_eq_false c8
      rw [if_neg c8] at hM
      refine Ev.steps (B := (183, [(0, .ref 62), (1, .ref 44), (2, .ref 61), (3, .int x3), (4, .int x4)], [.int 3, .int x4, .ref (62 + 1)], (am_sf (am_sf (am_sa (am_sa (am_sf (am_sf h 61 2 ((h.1 61 2) - (1 + (2 * ((h.2.1 (44 + 2)) (Int32.toNatClampNeg x4)))))) 61 1 ((h.1 61 1) - 1)) (62 + 2) (upd (h.2.1 (62 + 2)) (Int32.toNatClampNeg x4) (((h.2.1 (62 + 2)) (Int32.toNatClampNeg x4)) + 1))) (62 + 3) (upd (h.2.1 (62 + 3)) (Int32.toNatClampNeg x4) x3)) 62 5 ((h.1 62 5) - 1)) 62 6 ((h.1 62 6) + 1)))) 4 rfl ?_
      obtain ⟨g10, hM⟩ := am_gS hM
      refine Ev.g (B := (184, [(0, .ref 62), (1, .ref 44), (2, .ref 61), (3, .int x3), (4, .int x4)], [], (am_sa (am_sf (am_sf (am_sa (am_sa (am_sf (am_sf h 61 2 ((h.1 61 2) - (1 + (2 * ((h.2.1 (44 + 2)) (Int32.toNatClampNeg x4)))))) 61 1 ((h.1 61 1) - 1)) (62 + 2) (upd (h.2.1 (62 + 2)) (Int32.toNatClampNeg x4) (((h.2.1 (62 + 2)) (Int32.toNatClampNeg x4)) + 1))) (62 + 3) (upd (h.2.1 (62 + 3)) (Int32.toNatClampNeg x4) x3)) 62 5 ((h.1 62 5) - 1)) 62 6 ((h.1 62 6) + 1)) (62 + 1) (upd (h.2.1 (62 + 1)) (Int32.toNatClampNeg x4) 3)))) g10 rfl ?_
      refine Ev.steps (B := (210, [(0, .ref 62), (1, .ref 44), (2, .ref 61), (3, .int x3), (4, .int x4)], [.int x4], (am_sf (am_sa (am_sf (am_sf (am_sa (am_sa (am_sf (am_sf h 61 2 ((h.1 61 2) - (1 + (2 * ((h.2.1 (44 + 2)) (Int32.toNatClampNeg x4)))))) 61 1 ((h.1 61 1) - 1)) (62 + 2) (upd (h.2.1 (62 + 2)) (Int32.toNatClampNeg x4) (((h.2.1 (62 + 2)) (Int32.toNatClampNeg x4)) + 1))) (62 + 3) (upd (h.2.1 (62 + 3)) (Int32.toNatClampNeg x4) x3)) 62 5 ((h.1 62 5) - 1)) 62 6 ((h.1 62 6) + 1)) (62 + 1) (upd (h.2.1 (62 + 1)) (Int32.toNatClampNeg x4) 3)) 62 7 ((h.1 62 7) ||| (1 <<< (x4 &&& 31)))))) 10 rfl ?_
      obtain ⟨rfl, rfl⟩ := am_sp hM
      exact Ev.ret rfl
  · have c1 := of_decide_eq_false c1
    rw [if_neg c1] at hM
    refine Ev.steps (B := (89, [(0, .ref 62), (1, .ref 44), (2, .ref 61), (3, .int x3), (4, .int x4)], [.int (-1)], h)) 1 rfl ?_
    obtain ⟨rfl, rfl⟩ := am_sp hM
    exact Ev.ret rfl
set_option maxRecDepth 10000 in
theorem E_B_X0_serve_73_62_44_61 (n : Nat) (k6 : Int32 → Int32 → Int32 → AH → Option (Int32 × AH)) (vR : Int32) (hR : AH) (hk6 : ∀ (x3 : Int32) (x4 : Int32) (x5 : Int32) (h0 : AH), k6 x3 x4 x5 h0 = some (vR, hR) → Ev none mr_X0_serve (6, [(0, .ref 62), (1, .ref 44), (2, .ref 61), (3, .int x3), (4, .int x4), (5, .int x5)], [], h0) (some (.int vR)) hR) (x3 : Int32) (x5 : Int32) (h : AH) (hM : B_X0_serve_73 n k6 62 44 61 x3 x5 h = some (vR, hR)) : Ev none mr_X0_serve (73, [(0, .ref 62), (1, .ref 44), (2, .ref 61), (3, .int x3), (5, .int x5)], [], h) (some (.int vR)) hR := by
  unfold B_X0_serve_73 at hM
  refine Ev.steps (B := (6, [(5, .int (x5 + 1)), (4, .int x5), (0, .ref 62), (1, .ref 44), (2, .ref 61), (3, .int x3)], [], h)) 4 rfl ?_
  refine Ev.lv (lv := [(0, .ref 62), (1, .ref 44), (2, .ref 61), (3, .int x3), (4, .int x5), (5, .int (x5 + 1))]) ⟨rfl, rfl, rfl, rfl, rfl, rfl, trivial⟩ rfl rfl ?_
  exact hk6 x3 x5 (x5 + 1) h hM
set_option maxRecDepth 10000 in
theorem E_L_X0_serve_6_62_44_61 (n : Nat) (vR : Int32) (hR : AH) : ∀ (m : Nat) (x3 : Int32) (x4 : Int32) (x5 : Int32) (h : AH), L_X0_serve_6 n 62 44 61 m x3 x4 x5 h = some (vR, hR) → Ev none mr_X0_serve (6, [(0, .ref 62), (1, .ref 44), (2, .ref 61), (3, .int x3), (4, .int x4), (5, .int x5)], [], h) (some (.int vR)) hR := by
  intro m
  induction m with
  | zero =>
    intro x3 x4 x5 h hM
    exact (am_no hM).elim
  | succ m ih =>
    intro x3 x4 x5 h hM
    rw [L_X0_serve_6] at hM
    refine Ev.steps (B := (12, [(0, .ref 62), (1, .ref 44), (2, .ref 61), (3, .int x3), (4, .int x4), (5, .int x5)], [.int (h.1 44 3), .int x5], h)) 3 rfl ?_
    refine Ev.br (b := decide ((h.1 44 3) ≤ x5)) rfl (fun c1 => ?_) (fun c1 => ?_)
    · have c1 := of_decide_eq_true c1
      rw [if_pos c1] at hM
      refine Ev.lv (lv := [(0, .ref 62), (1, .ref 44), (2, .ref 61), (3, .int x3), (4, .int x4)]) ⟨rfl, rfl, rfl, rfl, rfl, trivial⟩ rfl rfl ?_
      exact E_B_X0_serve_83_62_44_61 n vR hR x3 x4 h hM
    · have c1 := of_decide_eq_false c1
      rw [if_neg c1] at hM
      refine Ev.steps (B := (19, [(0, .ref 62), (1, .ref 44), (2, .ref 61), (3, .int x3), (4, .int x4), (5, .int x5)], [.int 8, .int x5], h)) 2 rfl ?_
      refine Ev.br (b := decide (8 ≤ x5)) rfl (fun c2 => ?_) (fun c2 => ?_)
      · have c2 := of_decide_eq_true c2
        rw [if_pos c2] at hM
        refine Ev.lv (lv := [(0, .ref 62), (1, .ref 44), (2, .ref 61), (3, .int x3), (4, .int x4)]) ⟨rfl, rfl, rfl, rfl, rfl, trivial⟩ rfl rfl ?_
        exact E_B_X0_serve_83_62_44_61 n vR hR x3 x4 h hM
      · have c2 := of_decide_eq_false c2
        rw [if_neg c2] at hM
        refine Ev.steps (B := (28, [(0, .ref 62), (1, .ref 44), (2, .ref 61), (3, .int x3), (4, .int x4), (5, .int x5)], [.int x5, .ref (62 + 1)], h)) 3 rfl ?_
        obtain ⟨g3, hM⟩ := am_gS hM
        refine Ev.g (B := (29, [(0, .ref 62), (1, .ref 44), (2, .ref 61), (3, .int x3), (4, .int x4), (5, .int x5)], [.int ((h.2.1 (62 + 1)) (Int32.toNatClampNeg x5))], h)) g3 rfl ?_
        refine Ev.steps (B := (30, [(0, .ref 62), (1, .ref 44), (2, .ref 61), (3, .int x3), (4, .int x4), (5, .int x5)], [.int 1, .int ((h.2.1 (62 + 1)) (Int32.toNatClampNeg x5))], h)) 1 rfl ?_
        refine Ev.br (b := decide (¬ ((h.2.1 (62 + 1)) (Int32.toNatClampNeg x5)) = 1)) rfl (fun c4 => ?_) (fun c4 => ?_)
        · have c4 := of_decide_eq_true c4
          rw [if_neg c4] at hM
          refine Ev.steps (B := (6, [(5, .int (x5 + 1)), (0, .ref 62), (1, .ref 44), (2, .ref 61), (3, .int x3), (4, .int x4)], [], h)) 2 rfl ?_
          refine Ev.lv (lv := [(0, .ref 62), (1, .ref 44), (2, .ref 61), (3, .int x3), (4, .int x4), (5, .int (x5 + 1))]) ⟨rfl, rfl, rfl, rfl, rfl, rfl, trivial⟩ rfl rfl ?_
          exact ih x3 x4 (x5 + 1) h hM
        · have c4 := Decidable.of_not_not (of_decide_eq_false c4)
          rw [if_pos c4] at hM
          refine Ev.steps (B := (45, [(0, .ref 62), (1, .ref 44), (2, .ref 61), (3, .int x3), (4, .int x4), (5, .int x5)], [.int x5, .ref (44 + 2), .int 2, .int 1, .int (h.1 61 2)], h)) 7 rfl ?_
          obtain ⟨g5, hM⟩ := am_gS hM
          refine Ev.g (B := (46, [(0, .ref 62), (1, .ref 44), (2, .ref 61), (3, .int x3), (4, .int x4), (5, .int x5)], [.int ((h.2.1 (44 + 2)) (Int32.toNatClampNeg x5)), .int 2, .int 1, .int (h.1 61 2)], h)) g5 rfl ?_
          refine Ev.steps (B := (48, [(0, .ref 62), (1, .ref 44), (2, .ref 61), (3, .int x3), (4, .int x4), (5, .int x5)], [.int (1 + (2 * ((h.2.1 (44 + 2)) (Int32.toNatClampNeg x5)))), .int (h.1 61 2)], h)) 2 rfl ?_
          refine Ev.br (b := decide ((h.1 61 2) < (1 + (2 * ((h.2.1 (44 + 2)) (Int32.toNatClampNeg x5)))))) rfl (fun c6 => ?_) (fun c6 => ?_)
          · have c6 := of_decide_eq_true c6
            rw [if_pos c6] at hM
            refine Ev.steps (B := (6, [(5, .int (x5 + 1)), (0, .ref 62), (1, .ref 44), (2, .ref 61), (3, .int x3), (4, .int x4)], [], h)) 2 rfl ?_
            refine Ev.lv (lv := [(0, .ref 62), (1, .ref 44), (2, .ref 61), (3, .int x3), (4, .int x4), (5, .int (x5 + 1))]) ⟨rfl, rfl, rfl, rfl, rfl, rfl, trivial⟩ rfl rfl ?_
            exact ih x3 x4 (x5 + 1) h hM
          · have c6 := of_decide_eq_false c6
            rw [if_neg c6] at hM
            refine Ev.steps (B := (53, [(0, .ref 62), (1, .ref 44), (2, .ref 61), (3, .int x3), (4, .int x4), (5, .int x5)], [.int x4], h)) 1 rfl ?_
            refine Ev.br (b := decide (x4 < 0)) rfl (fun c7 => ?_) (fun c7 => ?_)
            · have c7 := of_decide_eq_true c7
              rw [if_pos c7] at hM
              refine Ev.lv (lv := [(0, .ref 62), (1, .ref 44), (2, .ref 61), (3, .int x3), (5, .int x5)]) ⟨rfl, rfl, rfl, rfl, rfl, trivial⟩ rfl rfl ?_
              exact E_B_X0_serve_73_62_44_61 n (L_X0_serve_6 n 62 44 61 m) vR hR ih x3 x5 h hM
            · have c7 := of_decide_eq_false c7
              rw [if_neg c7] at hM
              refine Ev.steps (B := (62, [(0, .ref 62), (1, .ref 44), (2, .ref 61), (3, .int x3), (4, .int x4), (5, .int x5)], [.int x5, .ref (62 + 4)], h)) 3 rfl ?_
              obtain ⟨g8, hM⟩ := am_gS hM
              refine Ev.g (B := (63, [(0, .ref 62), (1, .ref 44), (2, .ref 61), (3, .int x3), (4, .int x4), (5, .int x5)], [.int ((h.2.1 (62 + 4)) (Int32.toNatClampNeg x5))], h)) g8 rfl ?_
              refine Ev.steps (B := (69, [(0, .ref 62), (1, .ref 44), (2, .ref 61), (3, .int x3), (4, .int x4), (5, .int x5)], [.int x4, .ref (62 + 4), .int ((h.2.1 (62 + 4)) (Int32.toNatClampNeg x5))], h)) 3 rfl ?_
              obtain ⟨g9, hM⟩ := am_gS hM
              refine Ev.g (B := (70, [(0, .ref 62), (1, .ref 44), (2, .ref 61), (3, .int x3), (4, .int x4), (5, .int x5)], [.int ((h.2.1 (62 + 4)) (Int32.toNatClampNeg x4)), .int ((h.2.1 (62 + 4)) (Int32.toNatClampNeg x5))], h)) g9 rfl ?_
              refine Ev.br (b := decide (((h.2.1 (62 + 4)) (Int32.toNatClampNeg x4)) ≤ ((h.2.1 (62 + 4)) (Int32.toNatClampNeg x5)))) rfl (fun c10 => ?_) (fun c10 => ?_)
              · have c10 := of_decide_eq_true c10
                rw [if_pos c10] at hM
                refine Ev.steps (B := (6, [(5, .int (x5 + 1)), (0, .ref 62), (1, .ref 44), (2, .ref 61), (3, .int x3), (4, .int x4)], [], h)) 2 rfl ?_
                refine Ev.lv (lv := [(0, .ref 62), (1, .ref 44), (2, .ref 61), (3, .int x3), (4, .int x4), (5, .int (x5 + 1))]) ⟨rfl, rfl, rfl, rfl, rfl, rfl, trivial⟩ rfl rfl ?_
                exact ih x3 x4 (x5 + 1) h hM
              · have c10 := of_decide_eq_false c10
                rw [if_neg c10] at hM
                refine Ev.lv (lv := [(0, .ref 62), (1, .ref 44), (2, .ref 61), (3, .int x3), (5, .int x5)]) ⟨rfl, rfl, rfl, rfl, rfl, trivial⟩ rfl rfl ?_
                exact E_B_X0_serve_73_62_44_61 n (L_X0_serve_6 n 62 44 61 m) vR hR ih x3 x5 h hM
set_option maxRecDepth 10000 in
theorem E_X0_serve_62_44_61 (n : Nat) (a3 : Int32) (h : AH) (vR : Int32) (hR : AH) (hM : M_X0_serve n 62 44 61 a3 h = some (vR, hR)) : Ev none mr_X0_serve (0, [(0, .ref 62), (1, .ref 44), (2, .ref 61), (3, .int a3)], [], h) (some (.int vR)) hR := by
  unfold M_X0_serve at hM
  refine Ev.steps (B := (6, [(5, .int 0), (4, .int (-1)), (0, .ref 62), (1, .ref 44), (2, .ref 61), (3, .int a3)], [], h)) 4 rfl ?_
  refine Ev.lv (lv := [(0, .ref 62), (1, .ref 44), (2, .ref 61), (3, .int a3), (4, .int (-1)), (5, .int 0)]) ⟨rfl, rfl, rfl, rfl, rfl, rfl, trivial⟩ rfl rfl ?_
  exact E_L_X0_serve_6_62_44_61 n vR hR n a3 (-1) 0 h hM
set_option maxRecDepth 10000 in
theorem E_L_X0_losePatience_2_62 (n : Nat) (hR : AH) : ∀ (m : Nat) (x1 : Int32) (x2 : Int32) (h : AH), L_X0_losePatience_2 n 62 m x1 x2 h = some hR → Ev none mr_X0_losePatience (2, [(0, .ref 62), (1, .int x1), (2, .int x2)], [], h) none hR := by
  intro m
  induction m with
  | zero =>
    intro x1 x2 h hM
    exact (am_no hM).elim
  | succ m ih =>
    intro x1 x2 h hM
    rw [L_X0_losePatience_2] at hM
    refine Ev.steps (B := (5, [(0, .ref 62), (1, .int x1), (2, .int x2)], [.int 8, .int x2], h)) 2 rfl ?_
    refine Ev.br (b := decide (8 ≤ x2)) rfl (fun c1 => ?_) (fun c1 => ?_)
    · have c1 := of_decide_eq_true c1
      rw [if_pos c1] at hM
      obtain rfl := am_s1 hM
      exact Ev.ret rfl
    · have c1 := of_decide_eq_false c1
      rw [if_neg c1] at hM
      refine Ev.steps (B := (13, [(0, .ref 62), (1, .int x1), (2, .int x2)], [.int x2, .ref (62 + 1)], h)) 3 rfl ?_
      obtain ⟨g2, hM⟩ := am_gS hM
      refine Ev.g (B := (14, [(0, .ref 62), (1, .int x1), (2, .int x2)], [.int ((h.2.1 (62 + 1)) (Int32.toNatClampNeg x2))], h)) g2 rfl ?_
      refine Ev.steps (B := (15, [(0, .ref 62), (1, .int x1), (2, .int x2)], [.int 1, .int ((h.2.1 (62 + 1)) (Int32.toNatClampNeg x2))], h)) 1 rfl ?_
      refine Ev.br (b := decide (¬ ((h.2.1 (62 + 1)) (Int32.toNatClampNeg x2)) = 1)) rfl (fun c3 => ?_) (fun c3 => ?_)
      · have c3 := of_decide_eq_true c3
        rw [if_neg c3] at hM
        refine Ev.steps (B := (2, [(2, .int (x2 + 1)), (0, .ref 62), (1, .int x1)], [], h)) 2 rfl ?_
        refine Ev.lv (lv := [(0, .ref 62), (1, .int x1), (2, .int (x2 + 1))]) ⟨rfl, rfl, rfl, trivial⟩ rfl rfl ?_
        exact ih x1 (x2 + 1) h hM
      · have c3 := Decidable.of_not_not (of_decide_eq_false c3)
        rw [if_pos c3] at hM
        refine Ev.steps (B := (24, [(0, .ref 62), (1, .int x1), (2, .int x2)], [.int x2, .ref (62 + 3), .int x1], h)) 4 rfl ?_
        obtain ⟨g4, hM⟩ := am_gS hM
        refine Ev.g (B := (25, [(0, .ref 62), (1, .int x1), (2, .int x2)], [.int ((h.2.1 (62 + 3)) (Int32.toNatClampNeg x2)), .int x1], h)) g4 rfl ?_
        refine Ev.steps (B := (30, [(0, .ref 62), (1, .int x1), (2, .int x2)], [.int 6, .int ((x1 - ((h.2.1 (62 + 3)) (Int32.toNatClampNeg x2))) + 1)], h)) 4 rfl ?_
        refine Ev.br (b := decide (((x1 - ((h.2.1 (62 + 3)) (Int32.toNatClampNeg x2))) + 1) < 6)) rfl (fun c5 => ?_) (fun c5 => ?_)
        · have c5 := of_decide_eq_true c5
          rw [if_pos c5] at hM
          refine Ev.steps (B := (2, [(2, .int (x2 + 1)), (0, .ref 62), (1, .int x1)], [], h)) 2 rfl ?_
          refine Ev.lv (lv := [(0, .ref 62), (1, .int x1), (2, .int (x2 + 1))]) ⟨rfl, rfl, rfl, trivial⟩ rfl rfl ?_
          exact ih x1 (x2 + 1) h hM
        · have c5 := of_decide_eq_false c5
          rw [if_neg c5] at hM
          refine Ev.steps (B := (39, [(0, .ref 62), (1, .int x1), (2, .int x2)], [.int 4, .int x2, .ref (62 + 1)], h)) 4 rfl ?_
          obtain ⟨g6, hM⟩ := am_gS hM
          refine Ev.g (B := (40, [(0, .ref 62), (1, .int x1), (2, .int x2)], [], (am_sa h (62 + 1) (upd (h.2.1 (62 + 1)) (Int32.toNatClampNeg x2) 4)))) g6 rfl ?_
          refine Ev.steps (B := (2, [(2, .int (x2 + 1)), (0, .ref 62), (1, .int x1)], [], (am_sf (am_sf (am_sa h (62 + 1) (upd (h.2.1 (62 + 1)) (Int32.toNatClampNeg x2) 4)) 62 8 ((h.1 62 8) ||| (1 <<< (x2 &&& 31)))) 62 5 ((h.1 62 5) - 1)))) 16 rfl ?_
          refine Ev.lv (lv := [(0, .ref 62), (1, .int x1), (2, .int (x2 + 1))]) ⟨rfl, rfl, rfl, trivial⟩ rfl rfl ?_
          exact ih x1 (x2 + 1) (am_sf (am_sf (am_sa h (62 + 1) (upd (h.2.1 (62 + 1)) (Int32.toNatClampNeg x2) 4)) 62 8 ((h.1 62 8) ||| (1 <<< (x2 &&& 31)))) 62 5 ((h.1 62 5) - 1)) hM
set_option maxRecDepth 10000 in
theorem E_X0_losePatience_62 (n : Nat) (a1 : Int32) (h : AH) (hR : AH) (hM : M_X0_losePatience n 62 a1 h = some hR) : Ev none mr_X0_losePatience (0, [(0, .ref 62), (1, .int a1)], [], h) none hR := by
  unfold M_X0_losePatience at hM
  refine Ev.steps (B := (2, [(2, .int 0), (0, .ref 62), (1, .int a1)], [], h)) 2 rfl ?_
  refine Ev.lv (lv := [(0, .ref 62), (1, .int a1), (2, .int 0)]) ⟨rfl, rfl, rfl, trivial⟩ rfl rfl ?_
  exact E_L_X0_losePatience_2_62 n hR n a1 0 h hM
set_option maxRecDepth 10000 in
theorem E_X2_note_52 (a1 : Int32) (h : AH) (hR : AH) (hM : M_X2_note 52 a1 h = some hR) : Ev none mr_X2_note (0, [(0, .ref 52), (1, .int a1)], [], h) none hR := by
  unfold M_X2_note at hM
  refine Ev.steps (B := (3, [(0, .ref 52), (1, .int a1)], [.int 23, .int a1], h)) 2 rfl ?_
  refine Ev.call (q := (mr_X8_within, [.int a1, .int 23], [])) rfl (E_X8_within a1 23 h) ?_
  refine Ev.br (b := decide (¬ (M_X8_within a1 23) = 0)) rfl (fun c1 => ?_) (fun c1 => ?_)
  · have c1 := of_decide_eq_true c1
    rw [if_neg c1] at hM
    refine Ev.steps (B := (22, [(0, .ref 52), (1, .int a1)], [.int (h.1 (52 + 9) 0), .int a1, .ref (52 + 1)], h)) 6 rfl ?_
    obtain ⟨g2, hM⟩ := am_gS hM
    refine Ev.g (B := (23, [(0, .ref 52), (1, .int a1)], [], (am_sa h (52 + 1) (upd (h.2.1 (52 + 1)) (Int32.toNatClampNeg a1) (h.1 (52 + 9) 0))))) g2 rfl ?_
    refine Ev.steps (B := (35, [(0, .ref 52), (1, .int a1)], [.int (h.1 (52 + 9) 1), .int a1, .ref (52 + 2)], (am_sa h (52 + 1) (upd (h.2.1 (52 + 1)) (Int32.toNatClampNeg a1) (h.1 (52 + 9) 0))))) 6 rfl ?_
    obtain ⟨g3, hM⟩ := am_gS hM
    refine Ev.g (B := (36, [(0, .ref 52), (1, .int a1)], [], (am_sa (am_sa h (52 + 1) (upd (h.2.1 (52 + 1)) (Int32.toNatClampNeg a1) (h.1 (52 + 9) 0))) (52 + 2) (upd (h.2.1 (52 + 2)) (Int32.toNatClampNeg a1) (h.1 (52 + 9) 1))))) g3 rfl ?_
    refine Ev.steps (B := (48, [(0, .ref 52), (1, .int a1)], [.int (h.1 (52 + 9) 2), .int a1, .ref (52 + 3)], (am_sa (am_sa h (52 + 1) (upd (h.2.1 (52 + 1)) (Int32.toNatClampNeg a1) (h.1 (52 + 9) 0))) (52 + 2) (upd (h.2.1 (52 + 2)) (Int32.toNatClampNeg a1) (h.1 (52 + 9) 1))))) 6 rfl ?_
    obtain ⟨g4, hM⟩ := am_gS hM
    refine Ev.g (B := (49, [(0, .ref 52), (1, .int a1)], [], (am_sa (am_sa (am_sa h (52 + 1) (upd (h.2.1 (52 + 1)) (Int32.toNatClampNeg a1) (h.1 (52 + 9) 0))) (52 + 2) (upd (h.2.1 (52 + 2)) (Int32.toNatClampNeg a1) (h.1 (52 + 9) 1))) (52 + 3) (upd (h.2.1 (52 + 3)) (Int32.toNatClampNeg a1) (h.1 (52 + 9) 2))))) g4 rfl ?_
    refine Ev.steps (B := (61, [(0, .ref 52), (1, .int a1)], [.int (h.1 (52 + 10) 5), .int a1, .ref (52 + 6)], (am_sa (am_sa (am_sa h (52 + 1) (upd (h.2.1 (52 + 1)) (Int32.toNatClampNeg a1) (h.1 (52 + 9) 0))) (52 + 2) (upd (h.2.1 (52 + 2)) (Int32.toNatClampNeg a1) (h.1 (52 + 9) 1))) (52 + 3) (upd (h.2.1 (52 + 3)) (Int32.toNatClampNeg a1) (h.1 (52 + 9) 2))))) 6 rfl ?_
    obtain ⟨g5, hM⟩ := am_gS hM
    refine Ev.g (B := (62, [(0, .ref 52), (1, .int a1)], [], (am_sa (am_sa (am_sa (am_sa h (52 + 1) (upd (h.2.1 (52 + 1)) (Int32.toNatClampNeg a1) (h.1 (52 + 9) 0))) (52 + 2) (upd (h.2.1 (52 + 2)) (Int32.toNatClampNeg a1) (h.1 (52 + 9) 1))) (52 + 3) (upd (h.2.1 (52 + 3)) (Int32.toNatClampNeg a1) (h.1 (52 + 9) 2))) (52 + 6) (upd (h.2.1 (52 + 6)) (Int32.toNatClampNeg a1) (h.1 (52 + 10) 5))))) g5 rfl ?_
    refine Ev.steps (B := (80, [(0, .ref 52), (1, .int a1)], [.int 8, .int (a1 * 8), .ref (52 + 7), .int 0, .ref (52 + 11)], (am_sa (am_sa (am_sa (am_sa h (52 + 1) (upd (h.2.1 (52 + 1)) (Int32.toNatClampNeg a1) (h.1 (52 + 9) 0))) (52 + 2) (upd (h.2.1 (52 + 2)) (Int32.toNatClampNeg a1) (h.1 (52 + 9) 1))) (52 + 3) (upd (h.2.1 (52 + 3)) (Int32.toNatClampNeg a1) (h.1 (52 + 9) 2))) (52 + 6) (upd (h.2.1 (52 + 6)) (Int32.toNatClampNeg a1) (h.1 (52 + 10) 5))))) 10 rfl ?_
    obtain ⟨g6, hM⟩ := am_gS hM
    refine Ev.g (B := (83, [(0, .ref 52), (1, .int a1)], [], (am_sa (am_sa (am_sa (am_sa (am_sa h (52 + 1) (upd (h.2.1 (52 + 1)) (Int32.toNatClampNeg a1) (h.1 (52 + 9) 0))) (52 + 2) (upd (h.2.1 (52 + 2)) (Int32.toNatClampNeg a1) (h.1 (52 + 9) 1))) (52 + 3) (upd (h.2.1 (52 + 3)) (Int32.toNatClampNeg a1) (h.1 (52 + 9) 2))) (52 + 6) (upd (h.2.1 (52 + 6)) (Int32.toNatClampNeg a1) (h.1 (52 + 10) 5))) (52 + 7) (va_cpy (h.2.1 (52 + 11)) (h.2.1 (52 + 7)) (Int32.toNatClampNeg 0) (Int32.toNatClampNeg (a1 * 8)) (Int32.toNatClampNeg 8))))) g6 rfl ?_
    refine Ev.steps (B := (101, [(0, .ref 52), (1, .int a1)], [.int 8, .int (a1 * 8), .ref (52 + 8), .int 0, .ref (52 + 12)], (am_sa (am_sa (am_sa (am_sa (am_sa h (52 + 1) (upd (h.2.1 (52 + 1)) (Int32.toNatClampNeg a1) (h.1 (52 + 9) 0))) (52 + 2) (upd (h.2.1 (52 + 2)) (Int32.toNatClampNeg a1) (h.1 (52 + 9) 1))) (52 + 3) (upd (h.2.1 (52 + 3)) (Int32.toNatClampNeg a1) (h.1 (52 + 9) 2))) (52 + 6) (upd (h.2.1 (52 + 6)) (Int32.toNatClampNeg a1) (h.1 (52 + 10) 5))) (52 + 7) (va_cpy (h.2.1 (52 + 11)) (h.2.1 (52 + 7)) (Int32.toNatClampNeg 0) (Int32.toNatClampNeg (a1 * 8)) (Int32.toNatClampNeg 8))))) 10 rfl ?_
    obtain ⟨g7, hM⟩ := am_gS hM
    refine Ev.g (B := (104, [(0, .ref 52), (1, .int a1)], [], (am_sa (am_sa (am_sa (am_sa (am_sa (am_sa h (52 + 1) (upd (h.2.1 (52 + 1)) (Int32.toNatClampNeg a1) (h.1 (52 + 9) 0))) (52 + 2) (upd (h.2.1 (52 + 2)) (Int32.toNatClampNeg a1) (h.1 (52 + 9) 1))) (52 + 3) (upd (h.2.1 (52 + 3)) (Int32.toNatClampNeg a1) (h.1 (52 + 9) 2))) (52 + 6) (upd (h.2.1 (52 + 6)) (Int32.toNatClampNeg a1) (h.1 (52 + 10) 5))) (52 + 7) (va_cpy (h.2.1 (52 + 11)) (h.2.1 (52 + 7)) (Int32.toNatClampNeg 0) (Int32.toNatClampNeg (a1 * 8)) (Int32.toNatClampNeg 8))) (52 + 8) (va_cpy (h.2.1 (52 + 12)) (h.2.1 (52 + 8)) (Int32.toNatClampNeg 0) (Int32.toNatClampNeg (a1 * 8)) (Int32.toNatClampNeg 8))))) g7 rfl ?_
    obtain rfl := am_s1 hM
    exact Ev.ret rfl
  · have c1 := Decidable.of_not_not (of_decide_eq_false c1)
    rw [if_pos c1] at hM
    obtain rfl := am_s1 hM
    exact Ev.ret rfl
set_option maxRecDepth 10000 in
theorem E_B_X2_pass_145_52_39 (n : Nat) (k30 : Int32 → AH → Option AH) (hR : AH) (hk30 : ∀ (x2 : Int32) (h0 : AH), k30 x2 h0 = some hR → Ev none mr_X2_pass (30, [(0, .ref 52), (1, .ref 39), (2, .int x2)], [], h0) none hR) (x2 : Int32) (h : AH) (hM : B_X2_pass_145 n k30 52 39 x2 h = some hR) : Ev none mr_X2_pass (145, [(0, .ref 52), (1, .ref 39), (2, .int x2)], [], h) none hR := by
  unfold B_X2_pass_145 at hM
  refine Ev.steps (B := (147, [(0, .ref 52), (1, .ref 39), (2, .int x2)], [.int x2, .ref 52], h)) 2 rfl ?_
  obtain ⟨h1, e1, hM⟩ := am_vS hM
  refine Ev.call (q := (mr_X2_note, [.ref 52, .int x2], [])) rfl (E_X2_note_52 x2 h h1 e1) ?_
  refine Ev.steps (B := (30, [(2, .int (x2 + 1)), (0, .ref 52), (1, .ref 39)], [], h1)) 2 rfl ?_
  refine Ev.lv (lv := [(0, .ref 52), (1, .ref 39), (2, .int (x2 + 1))]) ⟨rfl, rfl, rfl, trivial⟩ rfl rfl ?_
  exact hk30 (x2 + 1) h1 hM
set_option maxRecDepth 10000 in
theorem E_B_X2_pass_120_52_39 (n : Nat) (k30 : Int32 → AH → Option AH) (hR : AH) (hk30 : ∀ (x2 : Int32) (h0 : AH), k30 x2 h0 = some hR → Ev none mr_X2_pass (30, [(0, .ref 52), (1, .ref 39), (2, .int x2)], [], h0) none hR) (x2 : Int32) (x3 : Int32) (y0 : Int32) (y1 : Int32) (h : AH) (hM : B_X2_pass_120 n k30 52 39 x2 x3 y0 y1 h = some hR) : Ev none mr_X2_pass (120, [(0, .ref 52), (1, .ref 39), (2, .int x2), (3, .int x3)], [.int y0, .int y1, .ref (52 + 5)], h) none hR := by
  unfold B_X2_pass_120 at hM
  obtain ⟨g1, hM⟩ := am_gS hM
  refine Ev.g (B := (121, [(0, .ref 52), (1, .ref 39), (2, .int x2), (3, .int x3)], [], (am_sa h (52 + 5) (upd (h.2.1 (52 + 5)) (Int32.toNatClampNeg y1) y0)))) g1 rfl ?_
  refine Ev.steps (B := (126, [(0, .ref 52), (1, .ref 39), (2, .int x2), (3, .int x3)], [.int x2, .ref (52 + 10)], (am_sa h (52 + 5) (upd (h.2.1 (52 + 5)) (Int32.toNatClampNeg y1) y0)))) 3 rfl ?_
  obtain ⟨h1, e2, hM⟩ := am_vS hM
  refine Ev.call (q := (mr_X0_losePatience, [.ref (52 + 10), .int x2], [])) rfl (E_X0_losePatience_62 n x2 (am_sa h (52 + 5) (upd (h.2.1 (52 + 5)) (Int32.toNatClampNeg y1) y0)) h1 e2) ?_
  refine Ev.steps (B := (130, [(0, .ref 52), (1, .ref 39), (2, .int x2), (3, .int x3)], [.int x3], h1)) 1 rfl ?_
  refine Ev.br (b := decide (x3 = 0)) rfl (fun c3 => ?_) (fun c3 => ?_)
  · have c3 := of_decide_eq_true c3
    rw [if_pos c3] at hM
    refine Ev.lv (lv := [(0, .ref 52), (1, .ref 39), (2, .int x2)]) ⟨rfl, rfl, rfl, trivial⟩ rfl rfl ?_
    exact E_B_X2_pass_145_52_39 n k30 hR hk30 x2 h1 hM
  · have c3 := of_decide_eq_false c3
    rw [if_neg c3] at hM
    refine Ev.steps (B := (145, [(0, .ref 52), (1, .ref 39), (2, .int x2), (3, .int x3)], [], (am_sf h1 52 10 ((h1.1 52 10) ||| (1 <<< (x2 &&& 31)))))) 8 rfl ?_
    refine Ev.lv (lv := [(0, .ref 52), (1, .ref 39), (2, .int x2)]) ⟨rfl, rfl, rfl, trivial⟩ rfl rfl ?_
    exact E_B_X2_pass_145_52_39 n k30 hR hk30 x2 (am_sf h1 52 10 ((h1.1 52 10) ||| (1 <<< (x2 &&& 31)))) hM
set_option maxRecDepth 10000 in
theorem E_B_X2_pass_58_52_39 (n : Nat) (k30 : Int32 → AH → Option AH) (hR : AH) (hk30 : ∀ (x2 : Int32) (h0 : AH), k30 x2 h0 = some hR → Ev none mr_X2_pass (30, [(0, .ref 52), (1, .ref 39), (2, .int x2)], [], h0) none hR) (x2 : Int32) (h : AH) (hM : B_X2_pass_58 n k30 52 39 x2 h = some hR) : Ev none mr_X2_pass (58, [(0, .ref 52), (1, .ref 39), (2, .int x2)], [], h) none hR := by
  unfold B_X2_pass_58 at hM
  refine Ev.steps (B := (67, [(0, .ref 52), (1, .ref 39), (2, .int x2)], [.int x2, .ref (52 + 4), .ref (52 + 9)], h)) 5 rfl ?_
  obtain ⟨g1, hM⟩ := am_gS hM
  refine Ev.g (B := (68, [(0, .ref 52), (1, .ref 39), (2, .int x2)], [.int ((h.2.1 (52 + 4)) (Int32.toNatClampNeg x2)), .ref (52 + 9)], h)) g1 rfl ?_
  obtain ⟨h1, e2, hM⟩ := am_vS hM
  refine Ev.call (q := (mr_X3_warm, [.ref (52 + 9), .int ((h.2.1 (52 + 4)) (Int32.toNatClampNeg x2))], [])) rfl (E_X3_warm_61 ((h.2.1 (52 + 4)) (Int32.toNatClampNeg x2)) h h1 e2) ?_
  refine Ev.steps (B := (75, [(0, .ref 52), (1, .ref 39), (2, .int x2)], [.ref (52 + 9)], h1)) 2 rfl ?_
  refine Ev.call (q := (mr_X3_boils, [.ref (52 + 9)], [])) rfl (E_X3_boils_61 h1) ?_
  refine Ev.steps (B := (88, [(3, .int (M_X3_boils (52 + 9) h1)), (0, .ref 52), (1, .ref 39), (2, .int x2)], [.int x2, .ref (pl_g 39), .ref (52 + 10)], h1)) 6 rfl ?_
  obtain ⟨h2, e3, hM⟩ := am_vS hM
  refine Ev.call (q := (mr_X0_lineUp, [.ref (52 + 10), .ref (pl_g 39), .int x2], [])) rfl (E_X0_lineUp_62_44 n x2 h1 h2 e3) ?_
  refine Ev.steps (B := (97, [(3, .int (M_X3_boils (52 + 9) h1)), (0, .ref 52), (1, .ref 39), (2, .int x2)], [.int (M_X3_boils (52 + 9) h1), .int x2, .ref (52 + 5)], h2)) 4 rfl ?_
  refine Ev.br (b := decide ((M_X3_boils (52 + 9) h1) = 0)) rfl (fun c4 => ?_) (fun c4 => ?_)
  · have c4 := of_decide_eq_true c4
    rw [if_pos c4] at hM
    refine Ev.steps (B := (120, [(3, .int (M_X3_boils (52 + 9) h1)), (0, .ref 52), (1, .ref 39), (2, .int x2)], [.int (-1), .int x2, .ref (52 + 5)], h2)) 1 rfl ?_
    refine Ev.lv (lv := [(0, .ref 52), (1, .ref 39), (2, .int x2), (3, .int (M_X3_boils (52 + 9) h1))]) ⟨rfl, rfl, rfl, rfl, trivial⟩ rfl rfl ?_
    exact E_B_X2_pass_120_52_39 n k30 hR hk30 x2 (M_X3_boils (52 + 9) h1) (-1) x2 h2 hM
  · have c4 := of_decide_eq_false c4
    rw [if_neg c4] at hM
    refine Ev.steps (B := (113, [(3, .int (M_X3_boils (52 + 9) h1)), (0, .ref 52), (1, .ref 39), (2, .int x2)], [.int x2, .ref (52 + 9), .ref (pl_g 39), .ref (52 + 10), .int x2, .ref (52 + 5)], h2)) 7 rfl ?_
    obtain ⟨v4, h3, e5, hM⟩ := am_bS hM
    refine Ev.call (q := (mr_X0_serve, [.ref (52 + 10), .ref (pl_g 39), .ref (52 + 9), .int x2], [.int x2, .ref (52 + 5)])) rfl (E_X0_serve_62_44_61 n x2 h2 v4 h3 e5) ?_
    refine Ev.steps (B := (120, [(3, .int (M_X3_boils (52 + 9) h1)), (0, .ref 52), (1, .ref 39), (2, .int x2)], [.int v4, .int x2, .ref (52 + 5)], h3)) 1 rfl ?_
    refine Ev.lv (lv := [(0, .ref 52), (1, .ref 39), (2, .int x2), (3, .int (M_X3_boils (52 + 9) h1))]) ⟨rfl, rfl, rfl, rfl, trivial⟩ rfl rfl ?_
    exact E_B_X2_pass_120_52_39 n k30 hR hk30 x2 (M_X3_boils (52 + 9) h1) v4 x2 h3 hM
set_option maxRecDepth 10000 in
theorem E_L_X2_pass_30_52_39 (n : Nat) (hR : AH) : ∀ (m : Nat) (x2 : Int32) (h : AH), L_X2_pass_30 n 52 39 m x2 h = some hR → Ev none mr_X2_pass (30, [(0, .ref 52), (1, .ref 39), (2, .int x2)], [], h) none hR := by
  intro m
  induction m with
  | zero =>
    intro x2 h hM
    exact (am_no hM).elim
  | succ m ih =>
    intro x2 h hM
    rw [L_X2_pass_30] at hM
    refine Ev.steps (B := (33, [(0, .ref 52), (1, .ref 39), (2, .int x2)], [.int 24, .int x2], h)) 2 rfl ?_
    refine Ev.br (b := decide (24 ≤ x2)) rfl (fun c1 => ?_) (fun c1 => ?_)
    · have c1 := of_decide_eq_true c1
      rw [if_pos c1] at hM
      obtain rfl := am_s1 hM
      exact Ev.ret rfl
    · have c1 := of_decide_eq_false c1
      rw [if_neg c1] at hM
      refine Ev.steps (B := (42, [(0, .ref 52), (1, .ref 39), (2, .int x2)], [.int x2, .ref 39, .ref (52 + 9)], h)) 4 rfl ?_
      obtain ⟨v2, h1, e2, hM⟩ := am_bS hM
      refine Ev.call (q := (mr_X3_meet, [.ref (52 + 9), .ref 39, .int x2], [])) rfl (E_X3_meet_61_39 n x2 h v2 h1 e2) ?_
      refine Ev.br (b := decide (v2 = 0)) rfl (fun c3 => ?_) (fun c3 => ?_)
      · have c3 := of_decide_eq_true c3
        rw [if_pos c3] at hM
        exact E_B_X2_pass_58_52_39 n (L_X2_pass_30 n 52 39 m) hR ih x2 h1 hM
      · have c3 := of_decide_eq_false c3
        rw [if_neg c3] at hM
        refine Ev.steps (B := (54, [(0, .ref 52), (1, .ref 39), (2, .int x2)], [.int x2, .ref (52 + 4), .int x2, .ref (52 + 4)], h1)) 4 rfl ?_
        obtain ⟨g4, hM⟩ := am_gS hM
        refine Ev.g (B := (55, [(0, .ref 52), (1, .ref 39), (2, .int x2)], [.int ((h1.2.1 (52 + 4)) (Int32.toNatClampNeg x2)), .int x2, .ref (52 + 4)], h1)) g4 rfl ?_
        refine Ev.steps (B := (57, [(0, .ref 52), (1, .ref 39), (2, .int x2)], [.int (((h1.2.1 (52 + 4)) (Int32.toNatClampNeg x2)) * 2), .int x2, .ref (52 + 4)], h1)) 2 rfl ?_
        obtain ⟨g5, hM⟩ := am_gS hM
        refine Ev.g (B := (58, [(0, .ref 52), (1, .ref 39), (2, .int x2)], [], (am_sa h1 (52 + 4) (upd (h1.2.1 (52 + 4)) (Int32.toNatClampNeg x2) (((h1.2.1 (52 + 4)) (Int32.toNatClampNeg x2)) * 2))))) g5 rfl ?_
        exact E_B_X2_pass_58_52_39 n (L_X2_pass_30 n 52 39 m) hR ih x2 (am_sa h1 (52 + 4) (upd (h1.2.1 (52 + 4)) (Int32.toNatClampNeg x2) (((h1.2.1 (52 + 4)) (Int32.toNatClampNeg x2)) * 2))) hM
set_option maxRecDepth 10000 in
theorem E_X2_pass_52_39 (n : Nat) (h : AH) (hR : AH) (hM : M_X2_pass n 52 39 h = some hR) : Ev none mr_X2_pass (0, [(0, .ref 52), (1, .ref 39)], [], h) none hR := by
  unfold M_X2_pass at hM
  refine Ev.steps (B := (5, [(0, .ref 52), (1, .ref 39)], [.ref 39, .ref (52 + 9)], h)) 3 rfl ?_
  obtain ⟨h1, e1, hM⟩ := am_vS hM
  refine Ev.call (q := (mr_X3_begin, [.ref (52 + 9), .ref 39], [])) rfl (E_X3_begin_61_39 h h1 e1) ?_
  refine Ev.steps (B := (12, [(0, .ref 52), (1, .ref 39)], [.ref (52 + 10)], h1)) 2 rfl ?_
  obtain ⟨h2, e2, hM⟩ := am_vS hM
  refine Ev.call (q := (mr_X0_begin, [.ref (52 + 10)], [])) rfl (E_X0_begin_62 n h1 h2 e2) ?_
  refine Ev.steps (B := (25, [(0, .ref 52), (1, .ref 39)], [.ref (pl_f 39), .ref 52], (am_sf h2 52 10 0))) 6 rfl ?_
  obtain ⟨h3, e3, hM⟩ := am_vS hM
  refine Ev.call (q := (mr_X2_light, [.ref 52, .ref (pl_f 39)], [])) rfl (E_X2_light_52_40 n (am_sf h2 52 10 0) h3 e3) ?_
  refine Ev.steps (B := (30, [(2, .int 0), (0, .ref 52), (1, .ref 39)], [], h3)) 2 rfl ?_
  refine Ev.lv (lv := [(0, .ref 52), (1, .ref 39), (2, .int 0)]) ⟨rfl, rfl, rfl, trivial⟩ rfl rfl ?_
  exact E_L_X2_pass_30_52_39 n hR n 0 h3 hM
