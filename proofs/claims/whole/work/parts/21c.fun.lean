def M_X8_read (n : Nat) (a1 : Int32) (h : AH) : Option (Int32 × AH) :=
  if a1 = 0 then
    B_X8_read_6 n 67 h
  else
  if a1 = 1 then
    B_X8_read_6 n 69 h
  else
  if a1 = 2 then
    B_X8_read_6 n 71 h
  else
  if a1 = 3 then
    B_X8_read_6 n 73 h
  else
    some ((-2), h)
set_option maxRecDepth 10000 in
theorem E_X8_read_0 (n : Nat) (a1 : Int32) (h : AH) (vR : Int32) (hR : AH) (hM : M_X8_read n a1 h = some (vR, hR)) : Ev none mr_X8_read (0, [(0, .ref 0), (1, .int a1)], [], h) (some (.int vR)) hR := by
  unfold M_X8_read at hM
  refine Ev.steps (B := (2, [(0, .ref 0), (1, .int a1)], [.int a1, .ref 0], h)) 2 rfl ?_
  by_cases c1 : a1 = 0
  · rw [if_pos c1] at hM
    refine Ev.call (q := (mr_X8_sheetAt, [.ref 0, .int a1], [])) rfl (E_X8_sheetAt_67 a1 h c1) ?_
    refine Ev.steps (B := (6, [(2, .ref 67), (0, .ref 0), (1, .int a1)], [], h)) 1 rfl ?_
    refine Ev.lv (lv := [(0, .ref 0), (2, .ref 67)]) ⟨rfl, rfl, trivial⟩ rfl rfl ?_
    exact E_B_X8_read_6_67 n vR hR h hM
  · rw [if_neg c1] at hM
    by_cases c2 : a1 = 1
    · rw [if_pos c2] at hM
      refine Ev.call (q := (mr_X8_sheetAt, [.ref 0, .int a1], [])) rfl (E_X8_sheetAt_69 a1 h c2) ?_
      refine Ev.steps (B := (6, [(2, .ref 69), (0, .ref 0), (1, .int a1)], [], h)) 1 rfl ?_
      refine Ev.lv (lv := [(0, .ref 0), (2, .ref 69)]) ⟨rfl, rfl, trivial⟩ rfl rfl ?_
      exact E_B_X8_read_6_69 n vR hR h hM
    · rw [if_neg c2] at hM
      by_cases c3 : a1 = 2
      · rw [if_pos c3] at hM
        refine Ev.call (q := (mr_X8_sheetAt, [.ref 0, .int a1], [])) rfl (E_X8_sheetAt_71 a1 h c3) ?_
        refine Ev.steps (B := (6, [(2, .ref 71), (0, .ref 0), (1, .int a1)], [], h)) 1 rfl ?_
        refine Ev.lv (lv := [(0, .ref 0), (2, .ref 71)]) ⟨rfl, rfl, trivial⟩ rfl rfl ?_
        exact E_B_X8_read_6_71 n vR hR h hM
      · rw [if_neg c3] at hM
        by_cases c4 : a1 = 3
        · rw [if_pos c4] at hM
          refine Ev.call (q := (mr_X8_sheetAt, [.ref 0, .int a1], [])) rfl (E_X8_sheetAt_73 a1 h c4) ?_
          refine Ev.steps (B := (6, [(2, .ref 73), (0, .ref 0), (1, .int a1)], [], h)) 1 rfl ?_
          refine Ev.lv (lv := [(0, .ref 0), (2, .ref 73)]) ⟨rfl, rfl, trivial⟩ rfl rfl ?_
          exact E_B_X8_read_6_73 n vR hR h hM
        · rw [if_neg c4] at hM
          refine Ev.call (q := (mr_X8_sheetAt, [.ref 0, .int a1], [])) rfl (E_X8_sheetAt_d a1 h c1 c2 c3 c4) ?_
          refine Ev.steps (B := (12, [(2, .null), (0, .ref 0), (1, .int a1)], [.int (-2)], h)) 4 rfl ?_
          obtain ⟨rfl, rfl⟩ := am_sp hM
          exact Ev.ret rfl
def M_X9_isSheet (a1 : Int32) : Int32 :=
  (M_X9_in a1 0 3)
set_option maxRecDepth 10000 in
theorem E_X9_isSheet (a1 : Int32) (h : AH) : Ev none mr_X9_isSheet (0, [(0, .int a1)], [], h) (some (.int (M_X9_isSheet a1))) h := by
  unfold M_X9_isSheet
  refine Ev.steps (B := (3, [(0, .int a1)], [.int 3, .int 0, .int a1], h)) 3 rfl ?_
  refine Ev.call (q := (mr_X9_in, [.int a1, .int 0, .int 3], [])) rfl (E_X9_in a1 0 3 h) ?_
  exact Ev.retg (b := am_b01 (M_X9_in a1 0 3)) (by apply Z_X9_in) rfl
set_option maxRecDepth 10000 in
theorem Z_X9_isSheet (a1 : Int32) : am_b01 (M_X9_isSheet a1) = true := by
  unfold M_X9_isSheet
  apply Z_X9_in
def M_X9_meets (a1 : Int32) (h : AH) : Option (Int32 × AH) :=
  some (((-10) - a1), (am_sf h 75 52 a1))
set_option maxRecDepth 10000 in
theorem E_X9_meets_75 (a1 : Int32) (h : AH) (vR : Int32) (hR : AH) (hM : M_X9_meets a1 h = some (vR, hR)) : Ev none mr_X9_meets (0, [(0, .ref 75), (1, .int a1)], [], h) (some (.int vR)) hR := by
  unfold M_X9_meets at hM
  refine Ev.steps (B := (9, [(0, .ref 75), (1, .int a1)], [.int ((-10) - a1)], (am_sf h 75 52 a1))) 6 rfl ?_
  obtain ⟨rfl, rfl⟩ := am_sp hM
  exact Ev.ret rfl
def L_X9_read_32 (n : Nat) : Nat → Int32 → Int32 → Int32 → AH → Option (Int32 × AH)
  | 0, _, _, _, _ => none
  | m + 1, x1, x2, x3, h =>
    bif (am_in x1 4) then
      if ((h.2.1 106) (Int32.toNatClampNeg x1)) ≤ ((3 * x2) + 2) then
        some (x2, h)
      else
        bif (am_in (x3 + (3 * x2)) 240) then
          bif (am_in ((x3 + (3 * x2)) + 1) 240) then
            bif (am_in ((x3 + (3 * x2)) + 2) 240) then
              am_b (M_X9_event ((h.2.1 107) (Int32.toNatClampNeg (x3 + (3 * x2)))) ((h.2.1 107) (Int32.toNatClampNeg ((x3 + (3 * x2)) + 1))) ((h.2.1 107) (Int32.toNatClampNeg ((x3 + (3 * x2)) + 2))) h) fun v2 h1 =>
              if v2 ≤ 0 then
                some (x2, h1)
              else
                L_X9_read_32 n m x1 (x2 + 1) x3 h1
            else none
          else none
        else none
    else none
set_option maxRecDepth 10000 in
theorem E_L_X9_read_32 (n : Nat) (vR : Int32) (hR : AH) : ∀ (m : Nat) (x1 : Int32) (x2 : Int32) (x3 : Int32) (h : AH), L_X9_read_32 n m x1 x2 x3 h = some (vR, hR) → Ev none mr_X9_read (32, [(0, .ref 75), (1, .int x1), (2, .int x2), (3, .int x3)], [], h) (some (.int vR)) hR := by
  intro m
  induction m with
  | zero =>
    intro x1 x2 x3 h hM
    exact (am_no hM).elim
  | succ m ih =>
    intro x1 x2 x3 h hM
    rw [L_X9_read_32] at hM
    refine Ev.steps (B := (42, [(0, .ref 75), (1, .int x1), (2, .int x2), (3, .int x3)], [.int x1, .ref 106, .int ((3 * x2) + 2)], h)) 8 rfl ?_
    obtain ⟨g1, hM⟩ := am_gS hM
    refine Ev.g (B := (43, [(0, .ref 75), (1, .int x1), (2, .int x2), (3, .int x3)], [.int ((h.2.1 106) (Int32.toNatClampNeg x1)), .int ((3 * x2) + 2)], h)) g1 rfl ?_
    refine Ev.br (b := decide (((h.2.1 106) (Int32.toNatClampNeg x1)) ≤ ((3 * x2) + 2))) rfl (fun c2 => ?_) (fun c2 => ?_)
    · have c2 := of_decide_eq_true c2
      rw [if_pos c2] at hM
      refine Ev.steps (B := (94, [(0, .ref 75), (1, .int x1), (2, .int x2), (3, .int x3)], [.int x2], h)) 1 rfl ?_
      obtain ⟨rfl, rfl⟩ := am_sp hM
      exact Ev.ret rfl
    · have c2 := of_decide_eq_false c2
      rw [if_neg c2] at hM
      refine Ev.steps (B := (56, [(0, .ref 75), (1, .int x1), (2, .int x2), (3, .int x3)], [.int (x3 + (3 * x2)), .ref 107, .ref 75], h)) 8 rfl ?_
      obtain ⟨g3, hM⟩ := am_gS hM
      refine Ev.g (B := (57, [(0, .ref 75), (1, .int x1), (2, .int x2), (3, .int x3)], [.int ((h.2.1 107) (Int32.toNatClampNeg (x3 + (3 * x2)))), .ref 75], h)) g3 rfl ?_
      refine Ev.steps (B := (68, [(0, .ref 75), (1, .int x1), (2, .int x2), (3, .int x3)], [.int ((x3 + (3 * x2)) + 1), .ref 107, .int ((h.2.1 107) (Int32.toNatClampNeg (x3 + (3 * x2)))), .ref 75], h)) 9 rfl ?_
      obtain ⟨g4, hM⟩ := am_gS hM
      refine Ev.g (B := (69, [(0, .ref 75), (1, .int x1), (2, .int x2), (3, .int x3)], [.int ((h.2.1 107) (Int32.toNatClampNeg ((x3 + (3 * x2)) + 1))), .int ((h.2.1 107) (Int32.toNatClampNeg (x3 + (3 * x2)))), .ref 75], h)) g4 rfl ?_
      refine Ev.steps (B := (80, [(0, .ref 75), (1, .int x1), (2, .int x2), (3, .int x3)], [.int ((x3 + (3 * x2)) + 2), .ref 107, .int ((h.2.1 107) (Int32.toNatClampNeg ((x3 + (3 * x2)) + 1))), .int ((h.2.1 107) (Int32.toNatClampNeg (x3 + (3 * x2)))), .ref 75], h)) 9 rfl ?_
      obtain ⟨g5, hM⟩ := am_gS hM
      refine Ev.g (B := (81, [(0, .ref 75), (1, .int x1), (2, .int x2), (3, .int x3)], [.int ((h.2.1 107) (Int32.toNatClampNeg ((x3 + (3 * x2)) + 2))), .int ((h.2.1 107) (Int32.toNatClampNeg ((x3 + (3 * x2)) + 1))), .int ((h.2.1 107) (Int32.toNatClampNeg (x3 + (3 * x2)))), .ref 75], h)) g5 rfl ?_
      obtain ⟨v2, h1, e6, hM⟩ := am_bS hM
      refine Ev.call (q := (mr_X9_event, [.ref 75, .int ((h.2.1 107) (Int32.toNatClampNeg (x3 + (3 * x2)))), .int ((h.2.1 107) (Int32.toNatClampNeg ((x3 + (3 * x2)) + 1))), .int ((h.2.1 107) (Int32.toNatClampNeg ((x3 + (3 * x2)) + 2)))], [])) rfl (E_X9_event_75 ((h.2.1 107) (Int32.toNatClampNeg (x3 + (3 * x2)))) ((h.2.1 107) (Int32.toNatClampNeg ((x3 + (3 * x2)) + 1))) ((h.2.1 107) (Int32.toNatClampNeg ((x3 + (3 * x2)) + 2))) h v2 h1 e6) ?_
      refine Ev.br (b := decide (v2 ≤ 0)) rfl (fun c7 => ?_) (fun c7 => ?_)
      · have c7 := of_decide_eq_true c7
        rw [if_pos c7] at hM
        refine Ev.steps (B := (94, [(0, .ref 75), (1, .int x1), (2, .int x2), (3, .int x3)], [.int x2], h1)) 1 rfl ?_
        obtain ⟨rfl, rfl⟩ := am_sp hM
        exact Ev.ret rfl
      · have c7 := of_decide_eq_false c7
        rw [if_neg c7] at hM
        refine Ev.steps (B := (32, [(2, .int (x2 + 1)), (0, .ref 75), (1, .int x1), (3, .int x3)], [], h1)) 2 rfl ?_
        refine Ev.lv (lv := [(0, .ref 75), (1, .int x1), (2, .int (x2 + 1)), (3, .int x3)]) ⟨rfl, rfl, rfl, rfl, trivial⟩ rfl rfl ?_
        exact ih x1 (x2 + 1) x3 h1 hM
def M_X9_read (n : Nat) (a1 : Int32) (h : AH) : Option (Int32 × AH) :=
  if (M_X9_isSheet a1) = 0 then
    some ((-2), h)
  else
    bif (am_in a1 4) then
      if ((h.2.1 104) (Int32.toNatClampNeg a1)) = 0 then
        am_b (M_X9_meets 1 h) fun v2 h1 =>
        some (v2, h1)
      else
        L_X9_read_32 n n a1 0 (60 * a1) h
    else none
set_option maxRecDepth 10000 in
theorem E_X9_read_75 (n : Nat) (a1 : Int32) (h : AH) (vR : Int32) (hR : AH) (hM : M_X9_read n a1 h = some (vR, hR)) : Ev none mr_X9_read (0, [(0, .ref 75), (1, .int a1)], [], h) (some (.int vR)) hR := by
  unfold M_X9_read at hM
  refine Ev.steps (B := (1, [(0, .ref 75), (1, .int a1)], [.int a1], h)) 1 rfl ?_
  refine Ev.call (q := (mr_X9_isSheet, [.int a1], [])) rfl (E_X9_isSheet a1 h) ?_
  refine Ev.br (b := decide (¬ (M_X9_isSheet a1) = 0)) rfl (fun c1 => ?_) (fun c1 => ?_)
  · have c1 := of_decide_eq_true c1
    rw [if_neg c1] at hM
    refine Ev.steps (B := (15, [(0, .ref 75), (1, .int a1)], [.int a1, .ref 104], h)) 3 rfl ?_
    obtain ⟨g2, hM⟩ := am_gS hM
    refine Ev.g (B := (16, [(0, .ref 75), (1, .int a1)], [.int ((h.2.1 104) (Int32.toNatClampNeg a1))], h)) g2 rfl ?_
    refine Ev.br (b := decide (¬ ((h.2.1 104) (Int32.toNatClampNeg a1)) = 0)) rfl (fun c3 => ?_) (fun c3 => ?_)
    · have c3 := of_decide_eq_true c3
      rw [if_neg c3] at hM
      refine Ev.steps (B := (32, [(3, .int (60 * a1)), (2, .int 0), (0, .ref 75), (1, .int a1)], [], h)) 6 rfl ?_
      refine Ev.lv (lv := [(0, .ref 75), (1, .int a1), (2, .int 0), (3, .int (60 * a1))]) ⟨rfl, rfl, rfl, rfl, trivial⟩ rfl rfl ?_
      exact E_L_X9_read_32 n vR hR n a1 0 (60 * a1) h hM
    · have c3 := Decidable.of_not_not (of_decide_eq_false c3)
      rw [if_pos c3] at hM
      refine Ev.steps (B := (21, [(0, .ref 75), (1, .int a1)], [.int 1, .ref 75], h)) 2 rfl ?_
      obtain ⟨v2, h1, e4, hM⟩ := am_bS hM
      refine Ev.call (q := (mr_X9_meets, [.ref 75, .int 1], [])) rfl (E_X9_meets_75 1 h v2 h1 e4) ?_
      obtain ⟨rfl, rfl⟩ := am_sp hM
      exact Ev.ret rfl
  · have c1 := Decidable.of_not_not (of_decide_eq_false c1)
    rw [if_pos c1] at hM
    refine Ev.steps (B := (9, [(0, .ref 75), (1, .int a1)], [.int (-2)], h)) 1 rfl ?_
    obtain ⟨rfl, rfl⟩ := am_sp hM
    exact Ev.ret rfl
def M_X3_begin (r0 : Nat) (r1 : Nat) (h : AH) : Option AH :=
  some (am_sf (am_sf (am_sf (am_sf h r0 0 0) r0 1 (h.1 r1 3)) r0 2 (h.1 r1 4)) r0 3 0)
set_option maxRecDepth 10000 in
theorem E_X3_begin_31_21 (h : AH) (hR : AH) (hM : M_X3_begin 31 21 h = some hR) : Ev none mr_X3_begin (0, [(0, .ref 31), (1, .ref 21)], [], h) none hR := by
  unfold M_X3_begin at hM
  refine Ev.steps (B := (26, [(0, .ref 31), (1, .ref 21)], [], (am_sf (am_sf (am_sf (am_sf h 31 0 0) 31 1 (h.1 21 3)) 31 2 (h.1 21 4)) 31 3 0))) 14 rfl ?_
  obtain rfl := am_s1 hM
  exact Ev.ret rfl
def L_J14_fill_I_5 (n : Nat) (r1 : Nat) : Nat → Int32 → Int32 → Int32 → AH → Option AH
  | 0, _, _, _, _ => none
  | m + 1, x1, x2, x3, h =>
    if x3 ≤ x2 then
      some h
    else
      bif (am_in x2 (am_lna r1)) then
        L_J14_fill_I_5 n r1 m x1 (x2 + 1) x3 (am_sa h r1 (upd (h.2.1 r1) (Int32.toNatClampNeg x2) x1))
      else none
set_option maxRecDepth 10000 in
theorem E_L_J14_fill_I_5_33 (n : Nat) (hR : AH) : ∀ (m : Nat) (x1 : Int32) (x2 : Int32) (x3 : Int32) (h : AH), L_J14_fill_I_5 n 33 m x1 x2 x3 h = some hR → Ev none mr_J14_fill_I (5, [(0, .ref 33), (1, .int x1), (2, .int x2), (3, .int x3)], [], h) none hR := by
  intro m
  induction m with
  | zero =>
    intro x1 x2 x3 h hM
    exact (am_no hM).elim
  | succ m ih =>
    intro x1 x2 x3 h hM
    rw [L_J14_fill_I_5] at hM
    refine Ev.steps (B := (7, [(0, .ref 33), (1, .int x1), (2, .int x2), (3, .int x3)], [.int x3, .int x2], h)) 2 rfl ?_
    refine Ev.br (b := decide (x3 ≤ x2)) rfl (fun c1 => ?_) (fun c1 => ?_)
    · have c1 := of_decide_eq_true c1
      rw [if_pos c1] at hM
      obtain rfl := am_s1 hM
      exact Ev.ret rfl
    · have c1 := of_decide_eq_false c1
      rw [if_neg c1] at hM
      refine Ev.steps (B := (13, [(0, .ref 33), (1, .int x1), (2, .int x2), (3, .int x3)], [.int x1, .int x2, .ref 33], h)) 3 rfl ?_
      obtain ⟨g2, hM⟩ := am_gS hM
      refine Ev.g (B := (14, [(0, .ref 33), (1, .int x1), (2, .int x2), (3, .int x3)], [], (am_sa h 33 (upd (h.2.1 33) (Int32.toNatClampNeg x2) x1)))) g2 rfl ?_
      refine Ev.steps (B := (5, [(2, .int (x2 + 1)), (0, .ref 33), (1, .int x1), (3, .int x3)], [], (am_sa h 33 (upd (h.2.1 33) (Int32.toNatClampNeg x2) x1)))) 2 rfl ?_
      refine Ev.lv (lv := [(0, .ref 33), (1, .int x1), (2, .int (x2 + 1)), (3, .int x3)]) ⟨rfl, rfl, rfl, rfl, trivial⟩ rfl rfl ?_
      exact ih x1 (x2 + 1) x3 (am_sa h 33 (upd (h.2.1 33) (Int32.toNatClampNeg x2) x1)) hM
def M_J14_fill_I (n : Nat) (r1 : Nat) (a2 : Int32) (h : AH) : Option AH :=
  L_J14_fill_I_5 n r1 n a2 0 (Int32.ofNat (am_lna r1)) h
set_option maxRecDepth 10000 in
theorem E_J14_fill_I_33 (n : Nat) (a2 : Int32) (h : AH) (hR : AH) (hM : M_J14_fill_I n 33 a2 h = some hR) : Ev none mr_J14_fill_I (0, [(0, .ref 33), (1, .int a2)], [], h) none hR := by
  unfold M_J14_fill_I at hM
  refine Ev.steps (B := (5, [(3, .int (Int32.ofNat (am_lna 33))), (2, .int 0), (0, .ref 33), (1, .int a2)], [], h)) 5 rfl ?_
  refine Ev.lv (lv := [(0, .ref 33), (1, .int a2), (2, .int 0), (3, .int (Int32.ofNat (am_lna 33)))]) ⟨rfl, rfl, rfl, rfl, trivial⟩ rfl rfl ?_
  exact E_L_J14_fill_I_5_33 n hR n a2 0 (Int32.ofNat (am_lna 33)) h hM
set_option maxRecDepth 10000 in
theorem E_L_J14_fill_I_5_34 (n : Nat) (hR : AH) : ∀ (m : Nat) (x1 : Int32) (x2 : Int32) (x3 : Int32) (h : AH), L_J14_fill_I_5 n 34 m x1 x2 x3 h = some hR → Ev none mr_J14_fill_I (5, [(0, .ref 34), (1, .int x1), (2, .int x2), (3, .int x3)], [], h) none hR := by
  intro m
  induction m with
  | zero =>
    intro x1 x2 x3 h hM
    exact (am_no hM).elim
  | succ m ih =>
    intro x1 x2 x3 h hM
    rw [L_J14_fill_I_5] at hM
    refine Ev.steps (B := (7, [(0, .ref 34), (1, .int x1), (2, .int x2), (3, .int x3)], [.int x3, .int x2], h)) 2 rfl ?_
    refine Ev.br (b := decide (x3 ≤ x2)) rfl (fun c1 => ?_) (fun c1 => ?_)
    · have c1 := of_decide_eq_true c1
      rw [if_pos c1] at hM
      obtain rfl := am_s1 hM
      exact Ev.ret rfl
    · have c1 := of_decide_eq_false c1
      rw [if_neg c1] at hM
      refine Ev.steps (B := (13, [(0, .ref 34), (1, .int x1), (2, .int x2), (3, .int x3)], [.int x1, .int x2, .ref 34], h)) 3 rfl ?_
      obtain ⟨g2, hM⟩ := am_gS hM
      refine Ev.g (B := (14, [(0, .ref 34), (1, .int x1), (2, .int x2), (3, .int x3)], [], (am_sa h 34 (upd (h.2.1 34) (Int32.toNatClampNeg x2) x1)))) g2 rfl ?_
      refine Ev.steps (B := (5, [(2, .int (x2 + 1)), (0, .ref 34), (1, .int x1), (3, .int x3)], [], (am_sa h 34 (upd (h.2.1 34) (Int32.toNatClampNeg x2) x1)))) 2 rfl ?_
      refine Ev.lv (lv := [(0, .ref 34), (1, .int x1), (2, .int (x2 + 1)), (3, .int x3)]) ⟨rfl, rfl, rfl, rfl, trivial⟩ rfl rfl ?_
      exact ih x1 (x2 + 1) x3 (am_sa h 34 (upd (h.2.1 34) (Int32.toNatClampNeg x2) x1)) hM
set_option maxRecDepth 10000 in
theorem E_J14_fill_I_34 (n : Nat) (a2 : Int32) (h : AH) (hR : AH) (hM : M_J14_fill_I n 34 a2 h = some hR) : Ev none mr_J14_fill_I (0, [(0, .ref 34), (1, .int a2)], [], h) none hR := by
  unfold M_J14_fill_I at hM
  refine Ev.steps (B := (5, [(3, .int (Int32.ofNat (am_lna 34))), (2, .int 0), (0, .ref 34), (1, .int a2)], [], h)) 5 rfl ?_
  refine Ev.lv (lv := [(0, .ref 34), (1, .int a2), (2, .int 0), (3, .int (Int32.ofNat (am_lna 34)))]) ⟨rfl, rfl, rfl, rfl, trivial⟩ rfl rfl ?_
  exact E_L_J14_fill_I_5_34 n hR n a2 0 (Int32.ofNat (am_lna 34)) h hM
def M_X0_begin (n : Nat) (r0 : Nat) (h : AH) : Option AH :=
  am_v (M_J14_fill_I n (r0 + 1) 0 h) fun h1 =>
  am_v (M_J14_fill_I n (r0 + 2) 0 h1) fun h2 =>
  some (am_sf (am_sf (am_sf (am_sf (am_sf h2 r0 4 0) r0 5 0) r0 6 0) r0 7 0) r0 8 0)
set_option maxRecDepth 10000 in
theorem E_X0_begin_32 (n : Nat) (h : AH) (hR : AH) (hM : M_X0_begin n 32 h = some hR) : Ev none mr_X0_begin (0, [(0, .ref 32)], [], h) none hR := by
  unfold M_X0_begin at hM
  refine Ev.steps (B := (5, [(0, .ref 32)], [.int 0, .ref (32 + 1)], h)) 3 rfl ?_
  obtain ⟨h1, e1, hM⟩ := am_vS hM
  refine Ev.call (q := (mr_J14_fill_I, [.ref (32 + 1), .int 0], [])) rfl (E_J14_fill_I_33 n 0 h h1 e1) ?_
  refine Ev.steps (B := (13, [(0, .ref 32)], [.int 0, .ref (32 + 2)], h1)) 3 rfl ?_
  obtain ⟨h2, e2, hM⟩ := am_vS hM
  refine Ev.call (q := (mr_J14_fill_I, [.ref (32 + 2), .int 0], [])) rfl (E_J14_fill_I_34 n 0 h1 h2 e2) ?_
  refine Ev.steps (B := (41, [(0, .ref 32)], [], (am_sf (am_sf (am_sf (am_sf (am_sf h2 32 4 0) 32 5 0) 32 6 0) 32 7 0) 32 8 0))) 15 rfl ?_
  obtain rfl := am_s1 hM
  exact Ev.ret rfl
set_option maxRecDepth 10000 in
theorem E_L_J14_fill_I_5_26 (n : Nat) (hR : AH) : ∀ (m : Nat) (x1 : Int32) (x2 : Int32) (x3 : Int32) (h : AH), L_J14_fill_I_5 n 26 m x1 x2 x3 h = some hR → Ev none mr_J14_fill_I (5, [(0, .ref 26), (1, .int x1), (2, .int x2), (3, .int x3)], [], h) none hR := by
  intro m
  induction m with
  | zero =>
    intro x1 x2 x3 h hM
    exact (am_no hM).elim
  | succ m ih =>
    intro x1 x2 x3 h hM
    rw [L_J14_fill_I_5] at hM
    refine Ev.steps (B := (7, [(0, .ref 26), (1, .int x1), (2, .int x2), (3, .int x3)], [.int x3, .int x2], h)) 2 rfl ?_
    refine Ev.br (b := decide (x3 ≤ x2)) rfl (fun c1 => ?_) (fun c1 => ?_)
    · have c1 := of_decide_eq_true c1
      rw [if_pos c1] at hM
      obtain rfl := am_s1 hM
      exact Ev.ret rfl
    · have c1 := of_decide_eq_false c1
      rw [if_neg c1] at hM
      refine Ev.steps (B := (13, [(0, .ref 26), (1, .int x1), (2, .int x2), (3, .int x3)], [.int x1, .int x2, .ref 26], h)) 3 rfl ?_
      obtain ⟨g2, hM⟩ := am_gS hM
      refine Ev.g (B := (14, [(0, .ref 26), (1, .int x1), (2, .int x2), (3, .int x3)], [], (am_sa h 26 (upd (h.2.1 26) (Int32.toNatClampNeg x2) x1)))) g2 rfl ?_
      refine Ev.steps (B := (5, [(2, .int (x2 + 1)), (0, .ref 26), (1, .int x1), (3, .int x3)], [], (am_sa h 26 (upd (h.2.1 26) (Int32.toNatClampNeg x2) x1)))) 2 rfl ?_
      refine Ev.lv (lv := [(0, .ref 26), (1, .int x1), (2, .int (x2 + 1)), (3, .int x3)]) ⟨rfl, rfl, rfl, rfl, trivial⟩ rfl rfl ?_
      exact ih x1 (x2 + 1) x3 (am_sa h 26 (upd (h.2.1 26) (Int32.toNatClampNeg x2) x1)) hM
set_option maxRecDepth 10000 in
theorem E_J14_fill_I_26 (n : Nat) (a2 : Int32) (h : AH) (hR : AH) (hM : M_J14_fill_I n 26 a2 h = some hR) : Ev none mr_J14_fill_I (0, [(0, .ref 26), (1, .int a2)], [], h) none hR := by
  unfold M_J14_fill_I at hM
  refine Ev.steps (B := (5, [(3, .int (Int32.ofNat (am_lna 26))), (2, .int 0), (0, .ref 26), (1, .int a2)], [], h)) 5 rfl ?_
  refine Ev.lv (lv := [(0, .ref 26), (1, .int a2), (2, .int 0), (3, .int (Int32.ofNat (am_lna 26)))]) ⟨rfl, rfl, rfl, rfl, trivial⟩ rfl rfl ?_
  exact E_L_J14_fill_I_5_26 n hR n a2 0 (Int32.ofNat (am_lna 26)) h hM
def L_X2_light_70 (n : Nat) (k10 : Int32 → AH → Option AH) (r0 : Nat) (r1 : Nat) : Nat → Int32 → Int32 → Int32 → Int32 → AH → Option AH
  | 0, _, _, _, _, _ => none
  | m + 1, x2, x3, x5, x6, h =>
    if x5 ≤ x6 then
      k10 (x2 + 1) h
    else
      bif (am_in x6 24) then
        bif (am_in x3 3) then
          bif (am_in x2 8) then
            bif (am_in x6 24) then
              L_X2_light_70 n k10 r0 r1 m x2 x3 x5 (x6 + 1) (am_sa h (r0 + 4) (upd (h.2.1 (r0 + 4)) (Int32.toNatClampNeg x6) (((h.2.1 (r0 + 4)) (Int32.toNatClampNeg x6)) + ((([3, 4, 3] : List Int32).getD (Int32.toNatClampNeg x3) 0) * ((h.2.1 (r1 + 3)) (Int32.toNatClampNeg x2))))))
            else none
          else none
        else none
      else none
set_option maxRecDepth 10000 in
theorem E_L_X2_light_70_22_2 (n : Nat) (k10 : Int32 → AH → Option AH) (hR : AH) (hk10 : ∀ (x2 : Int32) (h0 : AH), k10 x2 h0 = some hR → Ev none mr_X2_light (10, [(0, .ref 22), (1, .ref 2), (2, .int x2)], [], h0) none hR) : ∀ (m : Nat) (x2 : Int32) (x3 : Int32) (x5 : Int32) (x6 : Int32) (h : AH), L_X2_light_70 n k10 22 2 m x2 x3 x5 x6 h = some hR → Ev none mr_X2_light (70, [(0, .ref 22), (1, .ref 2), (2, .int x2), (3, .int x3), (5, .int x5), (6, .int x6)], [], h) none hR := by
  intro m
  induction m with
  | zero =>
    intro x2 x3 x5 x6 h hM
    exact (am_no hM).elim
  | succ m ih =>
    intro x2 x3 x5 x6 h hM
    rw [L_X2_light_70] at hM
    refine Ev.steps (B := (74, [(0, .ref 22), (1, .ref 2), (2, .int x2), (3, .int x3), (5, .int x5), (6, .int x6)], [.int x5, .int x6], h)) 2 rfl ?_
    refine Ev.br (b := decide (x5 ≤ x6)) rfl (fun c1 => ?_) (fun c1 => ?_)
    · have c1 := of_decide_eq_true c1
      rw [if_pos c1] at hM
      refine Ev.steps (B := (10, [(2, .int (x2 + 1)), (0, .ref 22), (1, .ref 2), (3, .int x3), (5, .int x5), (6, .int x6)], [], h)) 2 rfl ?_
      refine Ev.lv (lv := [(0, .ref 22), (1, .ref 2), (2, .int (x2 + 1))]) ⟨rfl, rfl, rfl, trivial⟩ rfl rfl ?_
      exact hk10 (x2 + 1) h hM
    · have c1 := of_decide_eq_false c1
      rw [if_neg c1] at hM
      refine Ev.steps (B := (84, [(0, .ref 22), (1, .ref 2), (2, .int x2), (3, .int x3), (5, .int x5), (6, .int x6)], [.int x6, .ref (22 + 4), .int x6, .ref (22 + 4)], h)) 4 rfl ?_
      obtain ⟨g2, hM⟩ := am_gS hM
      refine Ev.g (B := (85, [(0, .ref 22), (1, .ref 2), (2, .int x2), (3, .int x3), (5, .int x5), (6, .int x6)], [.int ((h.2.1 (22 + 4)) (Int32.toNatClampNeg x6)), .int x6, .ref (22 + 4)], h)) g2 rfl ?_
      refine Ev.steps (B := (89, [(0, .ref 22), (1, .ref 2), (2, .int x2), (3, .int x3), (5, .int x5), (6, .int x6)], [.int x3, .ref 203, .int ((h.2.1 (22 + 4)) (Int32.toNatClampNeg x6)), .int x6, .ref (22 + 4)], h)) 2 rfl ?_
      obtain ⟨g3, hM⟩ := am_gS hM
      refine Ev.g (B := (90, [(0, .ref 22), (1, .ref 2), (2, .int x2), (3, .int x3), (5, .int x5), (6, .int x6)], [.int (([3, 4, 3] : List Int32).getD (Int32.toNatClampNeg x3) 0), .int ((h.2.1 (22 + 4)) (Int32.toNatClampNeg x6)), .int x6, .ref (22 + 4)], h)) g3 rfl ?_
      refine Ev.steps (B := (95, [(0, .ref 22), (1, .ref 2), (2, .int x2), (3, .int x3), (5, .int x5), (6, .int x6)], [.int x2, .ref (2 + 3), .int (([3, 4, 3] : List Int32).getD (Int32.toNatClampNeg x3) 0), .int ((h.2.1 (22 + 4)) (Int32.toNatClampNeg x6)), .int x6, .ref (22 + 4)], h)) 3 rfl ?_
      obtain ⟨g4, hM⟩ := am_gS hM
      refine Ev.g (B := (96, [(0, .ref 22), (1, .ref 2), (2, .int x2), (3, .int x3), (5, .int x5), (6, .int x6)], [.int ((h.2.1 (2 + 3)) (Int32.toNatClampNeg x2)), .int (([3, 4, 3] : List Int32).getD (Int32.toNatClampNeg x3) 0), .int ((h.2.1 (22 + 4)) (Int32.toNatClampNeg x6)), .int x6, .ref (22 + 4)], h)) g4 rfl ?_
      refine Ev.steps (B := (98, [(0, .ref 22), (1, .ref 2), (2, .int x2), (3, .int x3), (5, .int x5), (6, .int x6)], [.int (((h.2.1 (22 + 4)) (Int32.toNatClampNeg x6)) + ((([3, 4, 3] : List Int32).getD (Int32.toNatClampNeg x3) 0) * ((h.2.1 (2 + 3)) (Int32.toNatClampNeg x2)))), .int x6, .ref (22 + 4)], h)) 2 rfl ?_
      obtain ⟨g5, hM⟩ := am_gS hM
      refine Ev.g (B := (99, [(0, .ref 22), (1, .ref 2), (2, .int x2), (3, .int x3), (5, .int x5), (6, .int x6)], [], (am_sa h (22 + 4) (upd (h.2.1 (22 + 4)) (Int32.toNatClampNeg x6) (((h.2.1 (22 + 4)) (Int32.toNatClampNeg x6)) + ((([3, 4, 3] : List Int32).getD (Int32.toNatClampNeg x3) 0) * ((h.2.1 (2 + 3)) (Int32.toNatClampNeg x2)))))))) g5 rfl ?_
      refine Ev.steps (B := (70, [(6, .int (x6 + 1)), (0, .ref 22), (1, .ref 2), (2, .int x2), (3, .int x3), (5, .int x5)], [], (am_sa h (22 + 4) (upd (h.2.1 (22 + 4)) (Int32.toNatClampNeg x6) (((h.2.1 (22 + 4)) (Int32.toNatClampNeg x6)) + ((([3, 4, 3] : List Int32).getD (Int32.toNatClampNeg x3) 0) * ((h.2.1 (2 + 3)) (Int32.toNatClampNeg x2)))))))) 2 rfl ?_
      refine Ev.lv (lv := [(0, .ref 22), (1, .ref 2), (2, .int x2), (3, .int x3), (5, .int x5), (6, .int (x6 + 1))]) ⟨rfl, rfl, rfl, rfl, rfl, rfl, trivial⟩ rfl rfl ?_
      exact ih x2 x3 x5 (x6 + 1) (am_sa h (22 + 4) (upd (h.2.1 (22 + 4)) (Int32.toNatClampNeg x6) (((h.2.1 (22 + 4)) (Int32.toNatClampNeg x6)) + ((([3, 4, 3] : List Int32).getD (Int32.toNatClampNeg x3) 0) * ((h.2.1 (2 + 3)) (Int32.toNatClampNeg x2)))))) hM
def L_X2_light_10 (n : Nat) (r0 : Nat) (r1 : Nat) : Nat → Int32 → AH → Option AH
  | 0, _, _ => none
  | m + 1, x2, h =>
    if (h.1 r1 3) ≤ x2 then
      some h
    else
      if 8 ≤ x2 then
        some h
      else
        bif (am_in x2 8) then
          if (M_X8_within ((h.2.1 (r1 + 2)) (Int32.toNatClampNeg x2)) 2) = 0 then
            L_X2_light_10 n r0 r1 m (x2 + 1) h
          else
            bif (am_in x2 8) then
              bif (am_in ((h.2.1 (r1 + 2)) (Int32.toNatClampNeg x2)) 3) then
                L_X2_light_70 n (L_X2_light_10 n r0 r1 m) r0 r1 n x2 ((h.2.1 (r1 + 2)) (Int32.toNatClampNeg x2)) (am_min 24 ((am_max 0 ((h.2.1 (r1 + 1)) (Int32.toNatClampNeg x2))) + (([3, 5, 9] : List Int32).getD (Int32.toNatClampNeg ((h.2.1 (r1 + 2)) (Int32.toNatClampNeg x2))) 0))) (am_max 0 ((h.2.1 (r1 + 1)) (Int32.toNatClampNeg x2))) h
              else none
            else none
        else none
set_option maxRecDepth 10000 in
theorem E_L_X2_light_10_22_2 (n : Nat) (hR : AH) : ∀ (m : Nat) (x2 : Int32) (h : AH), L_X2_light_10 n 22 2 m x2 h = some hR → Ev none mr_X2_light (10, [(0, .ref 22), (1, .ref 2), (2, .int x2)], [], h) none hR := by
  intro m
  induction m with
  | zero =>
    intro x2 h hM
    exact (am_no hM).elim
  | succ m ih =>
    intro x2 h hM
    rw [L_X2_light_10] at hM
    refine Ev.steps (B := (15, [(0, .ref 22), (1, .ref 2), (2, .int x2)], [.int (h.1 2 3), .int x2], h)) 3 rfl ?_
    refine Ev.br (b := decide ((h.1 2 3) ≤ x2)) rfl (fun c1 => ?_) (fun c1 => ?_)
    · have c1 := of_decide_eq_true c1
      rw [if_pos c1] at hM
      obtain rfl := am_s1 hM
      exact Ev.ret rfl
    · have c1 := of_decide_eq_false c1
      rw [if_neg c1] at hM
      refine Ev.steps (B := (21, [(0, .ref 22), (1, .ref 2), (2, .int x2)], [.int 8, .int x2], h)) 2 rfl ?_
      refine Ev.br (b := decide (8 ≤ x2)) rfl (fun c2 => ?_) (fun c2 => ?_)
      · have c2 := of_decide_eq_true c2
        rw [if_pos c2] at hM
        obtain rfl := am_s1 hM
        exact Ev.ret rfl
      · have c2 := of_decide_eq_false c2
        rw [if_neg c2] at hM
        refine Ev.steps (B := (29, [(0, .ref 22), (1, .ref 2), (2, .int x2)], [.int x2, .ref (2 + 2)], h)) 3 rfl ?_
        obtain ⟨g3, hM⟩ := am_gS hM
        refine Ev.g (B := (30, [(0, .ref 22), (1, .ref 2), (2, .int x2)], [.int ((h.2.1 (2 + 2)) (Int32.toNatClampNeg x2))], h)) g3 rfl ?_
        refine Ev.steps (B := (33, [(3, .int ((h.2.1 (2 + 2)) (Int32.toNatClampNeg x2))), (0, .ref 22), (1, .ref 2), (2, .int x2)], [.int 2, .int ((h.2.1 (2 + 2)) (Int32.toNatClampNeg x2))], h)) 3 rfl ?_
        refine Ev.call (q := (mr_X8_within, [.int ((h.2.1 (2 + 2)) (Int32.toNatClampNeg x2)), .int 2], [])) rfl (E_X8_within ((h.2.1 (2 + 2)) (Int32.toNatClampNeg x2)) 2 h) ?_
        refine Ev.br (b := decide ((M_X8_within ((h.2.1 (2 + 2)) (Int32.toNatClampNeg x2)) 2) = 0)) rfl (fun c4 => ?_) (fun c4 => ?_)
        · have c4 := of_decide_eq_true c4
          rw [if_pos c4] at hM
          refine Ev.steps (B := (10, [(2, .int (x2 + 1)), (3, .int ((h.2.1 (2 + 2)) (Int32.toNatClampNeg x2))), (0, .ref 22), (1, .ref 2)], [], h)) 2 rfl ?_
          refine Ev.lv (lv := [(0, .ref 22), (1, .ref 2), (2, .int (x2 + 1))]) ⟨rfl, rfl, rfl, trivial⟩ rfl rfl ?_
          exact ih (x2 + 1) h hM
        · have c4 := of_decide_eq_false c4
          rw [if_neg c4] at hM
          refine Ev.steps (B := (45, [(3, .int ((h.2.1 (2 + 2)) (Int32.toNatClampNeg x2))), (0, .ref 22), (1, .ref 2), (2, .int x2)], [.int x2, .ref (2 + 1), .int 0], h)) 4 rfl ?_
          obtain ⟨g5, hM⟩ := am_gS hM
          refine Ev.g (B := (46, [(3, .int ((h.2.1 (2 + 2)) (Int32.toNatClampNeg x2))), (0, .ref 22), (1, .ref 2), (2, .int x2)], [.int ((h.2.1 (2 + 1)) (Int32.toNatClampNeg x2)), .int 0], h)) g5 rfl ?_
          refine Ev.steps (B := (59, [(4, .int (am_max 0 ((h.2.1 (2 + 1)) (Int32.toNatClampNeg x2)))), (3, .int ((h.2.1 (2 + 2)) (Int32.toNatClampNeg x2))), (0, .ref 22), (1, .ref 2), (2, .int x2)], [.int ((h.2.1 (2 + 2)) (Int32.toNatClampNeg x2)), .ref 202, .int (am_max 0 ((h.2.1 (2 + 1)) (Int32.toNatClampNeg x2))), .int 24], h)) 6 rfl ?_
          obtain ⟨g6, hM⟩ := am_gS hM
          refine Ev.g (B := (60, [(4, .int (am_max 0 ((h.2.1 (2 + 1)) (Int32.toNatClampNeg x2)))), (3, .int ((h.2.1 (2 + 2)) (Int32.toNatClampNeg x2))), (0, .ref 22), (1, .ref 2), (2, .int x2)], [.int (([3, 5, 9] : List Int32).getD (Int32.toNatClampNeg ((h.2.1 (2 + 2)) (Int32.toNatClampNeg x2))) 0), .int (am_max 0 ((h.2.1 (2 + 1)) (Int32.toNatClampNeg x2))), .int 24], h)) g6 rfl ?_
          refine Ev.steps (B := (70, [(6, .int (am_max 0 ((h.2.1 (2 + 1)) (Int32.toNatClampNeg x2)))), (5, .int (am_min 24 ((am_max 0 ((h.2.1 (2 + 1)) (Int32.toNatClampNeg x2))) + (([3, 5, 9] : List Int32).getD (Int32.toNatClampNeg ((h.2.1 (2 + 2)) (Int32.toNatClampNeg x2))) 0)))), (4, .int (am_max 0 ((h.2.1 (2 + 1)) (Int32.toNatClampNeg x2)))), (3, .int ((h.2.1 (2 + 2)) (Int32.toNatClampNeg x2))), (0, .ref 22), (1, .ref 2), (2, .int x2)], [], h)) 5 rfl ?_
          refine Ev.lv (lv := [(0, .ref 22), (1, .ref 2), (2, .int x2), (3, .int ((h.2.1 (2 + 2)) (Int32.toNatClampNeg x2))), (5, .int (am_min 24 ((am_max 0 ((h.2.1 (2 + 1)) (Int32.toNatClampNeg x2))) + (([3, 5, 9] : List Int32).getD (Int32.toNatClampNeg ((h.2.1 (2 + 2)) (Int32.toNatClampNeg x2))) 0)))), (6, .int (am_max 0 ((h.2.1 (2 + 1)) (Int32.toNatClampNeg x2))))]) ⟨rfl, rfl, rfl, rfl, rfl, rfl, trivial⟩ rfl rfl ?_
          exact E_L_X2_light_70_22_2 n (L_X2_light_10 n 22 2 m) hR ih n x2 ((h.2.1 (2 + 2)) (Int32.toNatClampNeg x2)) (am_min 24 ((am_max 0 ((h.2.1 (2 + 1)) (Int32.toNatClampNeg x2))) + (([3, 5, 9] : List Int32).getD (Int32.toNatClampNeg ((h.2.1 (2 + 2)) (Int32.toNatClampNeg x2))) 0))) (am_max 0 ((h.2.1 (2 + 1)) (Int32.toNatClampNeg x2))) h hM
def M_X2_light (n : Nat) (r0 : Nat) (r1 : Nat) (h : AH) : Option AH :=
  am_v (M_J14_fill_I n (r0 + 4) 0 h) fun h1 =>
  L_X2_light_10 n r0 r1 n 0 h1
set_option maxRecDepth 10000 in
theorem E_X2_light_22_2 (n : Nat) (h : AH) (hR : AH) (hM : M_X2_light n 22 2 h = some hR) : Ev none mr_X2_light (0, [(0, .ref 22), (1, .ref 2)], [], h) none hR := by
  unfold M_X2_light at hM
  refine Ev.steps (B := (5, [(0, .ref 22), (1, .ref 2)], [.int 0, .ref (22 + 4)], h)) 3 rfl ?_
  obtain ⟨h1, e1, hM⟩ := am_vS hM
  refine Ev.call (q := (mr_J14_fill_I, [.ref (22 + 4), .int 0], [])) rfl (E_J14_fill_I_26 n 0 h h1 e1) ?_
  refine Ev.steps (B := (10, [(2, .int 0), (0, .ref 22), (1, .ref 2)], [], h1)) 2 rfl ?_
  refine Ev.lv (lv := [(0, .ref 22), (1, .ref 2), (2, .int 0)]) ⟨rfl, rfl, rfl, trivial⟩ rfl rfl ?_
  exact E_L_X2_light_10_22_2 n hR n 0 h1 hM
def L_X3_meet_11 (n : Nat) (r0 : Nat) (r1 : Nat) : Nat → Int32 → Int32 → Int32 → AH → Option (Int32 × AH)
  | 0, _, _, _, _ => none
  | m + 1, x2, x4, x5, h =>
    if (h.1 (pl_e r1) 3) ≤ x5 then
      bif am_b01 x4 then some (x4, h) else none
    else
      if 8 ≤ x5 then
        bif am_b01 x4 then some (x4, h) else none
      else
        bif (am_in x5 8) then
          if ((h.2.1 ((pl_e r1) + 1)) (Int32.toNatClampNeg x5)) = x2 then
            if (((h.1 r1 5) >>> (x5 &&& 31)) &&& 1) = 0 then
              bif (am_in x5 8) then
                if ((h.2.1 ((pl_e r1) + 2)) (Int32.toNatClampNeg x5)) = 0 then
                  bif (am_in x5 8) then
                    L_X3_meet_11 n r0 r1 m x2 x4 (x5 + 1) (am_sf (am_sf h r0 1 ((h.1 r0 1) + (am_min ((h.2.1 ((pl_e r1) + 3)) (Int32.toNatClampNeg x5)) (30 - (h.1 r0 1))))) r0 0 (am_max 0 ((h.1 r0 0) - (4 * (am_min ((h.2.1 ((pl_e r1) + 3)) (Int32.toNatClampNeg x5)) (30 - (h.1 r0 1)))))))
                  else none
                else
                if ((h.2.1 ((pl_e r1) + 2)) (Int32.toNatClampNeg x5)) = 1 then
                  bif (am_in x5 8) then
                    L_X3_meet_11 n r0 r1 m x2 x4 (x5 + 1) (am_sf h r0 2 (am_min 40 ((h.1 r0 2) + ((h.2.1 ((pl_e r1) + 3)) (Int32.toNatClampNeg x5)))))
                  else none
                else
                  L_X3_meet_11 n r0 r1 m x2 1 (x5 + 1) h
              else none
            else
              L_X3_meet_11 n r0 r1 m x2 x4 (x5 + 1) h
          else
            L_X3_meet_11 n r0 r1 m x2 x4 (x5 + 1) h
        else none
set_option maxRecDepth 10000 in
theorem E_L_X3_meet_11_31_21 (n : Nat) (vR : Int32) (hR : AH) : ∀ (m : Nat) (x2 : Int32) (x4 : Int32) (x5 : Int32) (h : AH), L_X3_meet_11 n 31 21 m x2 x4 x5 h = some (vR, hR) → Ev none mr_X3_meet (11, [(0, .ref 31), (1, .ref 21), (2, .int x2), (3, .ref (pl_e 21)), (4, .int x4), (5, .int x5)], [], h) (some (.int vR)) hR := by
  intro m
  induction m with
  | zero =>
    intro x2 x4 x5 h hM
    exact (am_no hM).elim
  | succ m ih =>
    intro x2 x4 x5 h hM
    rw [L_X3_meet_11] at hM
    refine Ev.steps (B := (17, [(0, .ref 31), (1, .ref 21), (2, .int x2), (3, .ref (pl_e 21)), (4, .int x4), (5, .int x5)], [.int (h.1 (pl_e 21) 3), .int x5], h)) 3 rfl ?_
    refine Ev.br (b := decide ((h.1 (pl_e 21) 3) ≤ x5)) rfl (fun c1 => ?_) (fun c1 => ?_)
    · have c1 := of_decide_eq_true c1
      rw [if_pos c1] at hM
      refine Ev.steps (B := (169, [(0, .ref 31), (1, .ref 21), (2, .int x2), (3, .ref (pl_e 21)), (4, .int x4), (5, .int x5)], [.int x4], h)) 1 rfl ?_
      obtain ⟨g2, hM⟩ := am_gS hM
      obtain ⟨rfl, rfl⟩ := am_sp hM
      exact Ev.retg g2 rfl
    · have c1 := of_decide_eq_false c1
      rw [if_neg c1] at hM
      refine Ev.steps (B := (24, [(0, .ref 31), (1, .ref 21), (2, .int x2), (3, .ref (pl_e 21)), (4, .int x4), (5, .int x5)], [.int 8, .int x5], h)) 2 rfl ?_
      refine Ev.br (b := decide (8 ≤ x5)) rfl (fun c3 => ?_) (fun c3 => ?_)
      · have c3 := of_decide_eq_true c3
        rw [if_pos c3] at hM
        refine Ev.steps (B := (169, [(0, .ref 31), (1, .ref 21), (2, .int x2), (3, .ref (pl_e 21)), (4, .int x4), (5, .int x5)], [.int x4], h)) 1 rfl ?_
        obtain ⟨g4, hM⟩ := am_gS hM
        obtain ⟨rfl, rfl⟩ := am_sp hM
        exact Ev.retg g4 rfl
      · have c3 := of_decide_eq_false c3
        rw [if_neg c3] at hM
        refine Ev.steps (B := (33, [(0, .ref 31), (1, .ref 21), (2, .int x2), (3, .ref (pl_e 21)), (4, .int x4), (5, .int x5)], [.int x5, .ref ((pl_e 21) + 1)], h)) 3 rfl ?_
        obtain ⟨g5, hM⟩ := am_gS hM
        refine Ev.g (B := (34, [(0, .ref 31), (1, .ref 21), (2, .int x2), (3, .ref (pl_e 21)), (4, .int x4), (5, .int x5)], [.int ((h.2.1 ((pl_e 21) + 1)) (Int32.toNatClampNeg x5))], h)) g5 rfl ?_
        refine Ev.steps (B := (35, [(0, .ref 31), (1, .ref 21), (2, .int x2), (3, .ref (pl_e 21)), (4, .int x4), (5, .int x5)], [.int x2, .int ((h.2.1 ((pl_e 21) + 1)) (Int32.toNatClampNeg x5))], h)) 1 rfl ?_
        refine Ev.br (b := decide (¬ ((h.2.1 ((pl_e 21) + 1)) (Int32.toNatClampNeg x5)) = x2)) rfl (fun c6 => ?_) (fun c6 => ?_)
        · have c6 := of_decide_eq_true c6
          rw [if_neg c6] at hM
          refine Ev.steps (B := (11, [(5, .int (x5 + 1)), (0, .ref 31), (1, .ref 21), (2, .int x2), (3, .ref (pl_e 21)), (4, .int x4)], [], h)) 2 rfl ?_
          refine Ev.lv (lv := [(0, .ref 31), (1, .ref 21), (2, .int x2), (3, .ref (pl_e 21)), (4, .int x4), (5, .int (x5 + 1))]) ⟨rfl, rfl, rfl, rfl, rfl, rfl, trivial⟩ rfl rfl ?_
          exact ih x2 x4 (x5 + 1) h hM
        · have c6 := Decidable.of_not_not (of_decide_eq_false c6)
          rw [if_pos c6] at hM
          refine Ev.steps (B := (47, [(0, .ref 31), (1, .ref 21), (2, .int x2), (3, .ref (pl_e 21)), (4, .int x4), (5, .int x5)], [.int (((h.1 21 5) >>> (x5 &&& 31)) &&& 1)], h)) 6 rfl ?_
          refine Ev.br (b := decide (¬ (((h.1 21 5) >>> (x5 &&& 31)) &&& 1) = 0)) rfl (fun c7 => ?_) (fun c7 => ?_)
          · have c7 := of_decide_eq_true c7
            rw [if_neg c7] at hM
            refine Ev.steps (B := (11, [(5, .int (x5 + 1)), (0, .ref 31), (1, .ref 21), (2, .int x2), (3, .ref (pl_e 21)), (4, .int x4)], [], h)) 2 rfl ?_
            refine Ev.lv (lv := [(0, .ref 31), (1, .ref 21), (2, .int x2), (3, .ref (pl_e 21)), (4, .int x4), (5, .int (x5 + 1))]) ⟨rfl, rfl, rfl, rfl, rfl, rfl, trivial⟩ rfl rfl ?_
            exact ih x2 x4 (x5 + 1) h hM
          · have c7 := Decidable.of_not_not (of_decide_eq_false c7)
            rw [if_pos c7] at hM
            refine Ev.steps (B := (56, [(0, .ref 31), (1, .ref 21), (2, .int x2), (3, .ref (pl_e 21)), (4, .int x4), (5, .int x5)], [.int x5, .ref ((pl_e 21) + 2)], h)) 3 rfl ?_
            obtain ⟨g8, hM⟩ := am_gS hM
            refine Ev.g (B := (57, [(0, .ref 31), (1, .ref 21), (2, .int x2), (3, .ref (pl_e 21)), (4, .int x4), (5, .int x5)], [.int ((h.2.1 ((pl_e 21) + 2)) (Int32.toNatClampNeg x5))], h)) g8 rfl ?_
            refine Ev.step (B := (am_sel ((h.2.1 ((pl_e 21) + 2)) (Int32.toNatClampNeg x5)) [(0, 84), (1, 134)] 158, [(0, .ref 31), (1, .ref 21), (2, .int x2), (3, .ref (pl_e 21)), (4, .int x4), (5, .int x5)], [], h)) rfl ?_
            refine Ev.sw (fun c9 => ?_) (fun c9 => ?_)
            · rw [if_pos c9] at hM
              refine Ev.steps (B := (90, [(0, .ref 31), (1, .ref 21), (2, .int x2), (3, .ref (pl_e 21)), (4, .int x4), (5, .int x5)], [.int x5, .ref ((pl_e 21) + 3)], h)) 3 rfl ?_
              obtain ⟨g10, hM⟩ := am_gS hM
              refine Ev.g (B := (91, [(0, .ref 31), (1, .ref 21), (2, .int x2), (3, .ref (pl_e 21)), (4, .int x4), (5, .int x5)], [.int ((h.2.1 ((pl_e 21) + 3)) (Int32.toNatClampNeg x5))], h)) g10 rfl ?_
              refine Ev.steps (B := (11, [(5, .int (x5 + 1)), (6, .int (am_min ((h.2.1 ((pl_e 21) + 3)) (Int32.toNatClampNeg x5)) (30 - (h.1 31 1)))), (0, .ref 31), (1, .ref 21), (2, .int x2), (3, .ref (pl_e 21)), (4, .int x4)], [], (am_sf (am_sf h 31 1 ((h.1 31 1) + (am_min ((h.2.1 ((pl_e 21) + 3)) (Int32.toNatClampNeg x5)) (30 - (h.1 31 1))))) 31 0 (am_max 0 ((h.1 31 0) - (4 * (am_min ((h.2.1 ((pl_e 21) + 3)) (Int32.toNatClampNeg x5)) (30 - (h.1 31 1))))))))) 25 rfl ?_
              refine Ev.lv (lv := [(0, .ref 31), (1, .ref 21), (2, .int x2), (3, .ref (pl_e 21)), (4, .int x4), (5, .int (x5 + 1))]) ⟨rfl, rfl, rfl, rfl, rfl, rfl, trivial⟩ rfl rfl ?_
              exact ih x2 x4 (x5 + 1) (am_sf (am_sf h 31 1 ((h.1 31 1) + (am_min ((h.2.1 ((pl_e 21) + 3)) (Int32.toNatClampNeg x5)) (30 - (h.1 31 1))))) 31 0 (am_max 0 ((h.1 31 0) - (4 * (am_min ((h.2.1 ((pl_e 21) + 3)) (Int32.toNatClampNeg x5)) (30 - (h.1 31 1))))))) hM
            · rw [if_neg c9] at hM
              refine Ev.sw (fun c11 => ?_) (fun c11 => ?_)
              · rw [if_pos c11] at hM
                refine Ev.steps (B := (147, [(0, .ref 31), (1, .ref 21), (2, .int x2), (3, .ref (pl_e 21)), (4, .int x4), (5, .int x5)], [.int x5, .ref ((pl_e 21) + 3), .int (h.1 31 2), .int 40, .ref 31], h)) 7 rfl ?_
                obtain ⟨g12, hM⟩ := am_gS hM
                refine Ev.g (B := (148, [(0, .ref 31), (1, .ref 21), (2, .int x2), (3, .ref (pl_e 21)), (4, .int x4), (5, .int x5)], [.int ((h.2.1 ((pl_e 21) + 3)) (Int32.toNatClampNeg x5)), .int (h.1 31 2), .int 40, .ref 31], h)) g12 rfl ?_
                refine Ev.steps (B := (11, [(5, .int (x5 + 1)), (0, .ref 31), (1, .ref 21), (2, .int x2), (3, .ref (pl_e 21)), (4, .int x4)], [], (am_sf h 31 2 (am_min 40 ((h.1 31 2) + ((h.2.1 ((pl_e 21) + 3)) (Int32.toNatClampNeg x5))))))) 6 rfl ?_
                refine Ev.lv (lv := [(0, .ref 31), (1, .ref 21), (2, .int x2), (3, .ref (pl_e 21)), (4, .int x4), (5, .int (x5 + 1))]) ⟨rfl, rfl, rfl, rfl, rfl, rfl, trivial⟩ rfl rfl ?_
                exact ih x2 x4 (x5 + 1) (am_sf h 31 2 (am_min 40 ((h.1 31 2) + ((h.2.1 ((pl_e 21) + 3)) (Int32.toNatClampNeg x5))))) hM
              · rw [if_neg c11] at hM
                refine Ev.steps (B := (11, [(5, .int (x5 + 1)), (4, .int 1), (0, .ref 31), (1, .ref 21), (2, .int x2), (3, .ref (pl_e 21))], [], h)) 4 rfl ?_
                refine Ev.lv (lv := [(0, .ref 31), (1, .ref 21), (2, .int x2), (3, .ref (pl_e 21)), (4, .int 1), (5, .int (x5 + 1))]) ⟨rfl, rfl, rfl, rfl, rfl, rfl, trivial⟩ rfl rfl ?_
                exact ih x2 1 (x5 + 1) h hM
def M_X3_meet (n : Nat) (r0 : Nat) (r1 : Nat) (a2 : Int32) (h : AH) : Option (Int32 × AH) :=
  L_X3_meet_11 n r0 r1 n a2 0 0 h
set_option maxRecDepth 10000 in
theorem E_X3_meet_31_21 (n : Nat) (a2 : Int32) (h : AH) (vR : Int32) (hR : AH) (hM : M_X3_meet n 31 21 a2 h = some (vR, hR)) : Ev none mr_X3_meet (0, [(0, .ref 31), (1, .ref 21), (2, .int a2)], [], h) (some (.int vR)) hR := by
  unfold M_X3_meet at hM
  refine Ev.steps (B := (11, [(5, .int 0), (4, .int 0), (3, .ref (pl_e 21)), (0, .ref 31), (1, .ref 21), (2, .int a2)], [], h)) 7 rfl ?_
  refine Ev.lv (lv := [(0, .ref 31), (1, .ref 21), (2, .int a2), (3, .ref (pl_e 21)), (4, .int 0), (5, .int 0)]) ⟨rfl, rfl, rfl, rfl, rfl, rfl, trivial⟩ rfl rfl ?_
  exact E_L_X3_meet_11_31_21 n vR hR n a2 0 0 h hM
def M_X3_warm (r0 : Nat) (a1 : Int32) (h : AH) : Option AH :=
  if (am_min 100 (am_max 0 ((((h.1 r0 0) + a1) - 2) - ((h.1 r0 1) / 5)))) = 100 then
    if (h.1 r0 1) ≤ 0 then
      some (am_sf h r0 0 (am_min 100 (am_max 0 ((((h.1 r0 0) + a1) - 2) - ((h.1 r0 1) / 5)))))
    else
      some (am_sf (am_sf (am_sf h r0 0 (am_min 100 (am_max 0 ((((h.1 r0 0) + a1) - 2) - ((h.1 r0 1) / 5))))) r0 1 ((h.1 r0 1) - 1)) r0 3 ((h.1 r0 3) + 1))
  else
    some (am_sf h r0 0 (am_min 100 (am_max 0 ((((h.1 r0 0) + a1) - 2) - ((h.1 r0 1) / 5)))))
set_option maxRecDepth 10000 in
theorem E_X3_warm_31 (a1 : Int32) (h : AH) (hR : AH) (hM : M_X3_warm 31 a1 h = some hR) : Ev none mr_X3_warm (0, [(0, .ref 31), (1, .int a1)], [], h) none hR := by
  unfold M_X3_warm at hM
  refine Ev.steps (B := (34, [(0, .ref 31), (1, .int a1)], [.int 100, .int (am_min 100 (am_max 0 ((((h.1 31 0) + a1) - 2) - ((h.1 31 1) / 5))))], (am_sf h 31 0 (am_min 100 (am_max 0 ((((h.1 31 0) + a1) - 2) - ((h.1 31 1) / 5))))))) 20 rfl ?_
  refine Ev.br (b := decide (¬ (am_min 100 (am_max 0 ((((h.1 31 0) + a1) - 2) - ((h.1 31 1) / 5)))) = 100)) rfl (fun c1 => ?_) (fun c1 => ?_)
  · have c1 := of_decide_eq_true c1
    rw [if_neg c1] at hM
    obtain rfl := am_s1 hM
    exact Ev.ret rfl
  · have c1 := Decidable.of_not_not (of_decide_eq_false c1)
    rw [if_pos c1] at hM
    refine Ev.steps (B := (41, [(0, .ref 31), (1, .int a1)], [.int (h.1 31 1)], (am_sf h 31 0 (am_min 100 (am_max 0 ((((h.1 31 0) + a1) - 2) - ((h.1 31 1) / 5))))))) 2 rfl ?_
    refine Ev.br (b := decide ((h.1 31 1) ≤ 0)) rfl (fun c2 => ?_) (fun c2 => ?_)
    · have c2 := of_decide_eq_true c2
      rw [if_pos c2] at hM
      obtain rfl := am_s1 hM
      exact Ev.ret rfl
    · have c2 := of_decide_eq_false c2
      rw [if_neg c2] at hM
      refine Ev.steps (B := (64, [(0, .ref 31), (1, .int a1)], [], (am_sf (am_sf (am_sf h 31 0 (am_min 100 (am_max 0 ((((h.1 31 0) + a1) - 2) - ((h.1 31 1) / 5))))) 31 1 ((h.1 31 1) - 1)) 31 3 ((h.1 31 3) + 1)))) 12 rfl ?_
      obtain rfl := am_s1 hM
      exact Ev.ret rfl
def M_X3_boils (r0 : Nat) (h : AH) : Int32 :=
  if (h.1 r0 0) < 80 then
    0
  else
    if (h.1 r0 1) ≤ 0 then
      0
    else
      1
set_option maxRecDepth 10000 in
theorem E_X3_boils_31 (h : AH) : Ev none mr_X3_boils (0, [(0, .ref 31)], [], h) (some (.int (M_X3_boils 31 h))) h := by
  unfold M_X3_boils
  refine Ev.steps (B := (6, [(0, .ref 31)], [.int 80, .int (h.1 31 0)], h)) 3 rfl ?_
  refine Ev.br (b := decide ((h.1 31 0) < 80)) rfl (fun c1 => ?_) (fun c1 => ?_)
  · have c1 := of_decide_eq_true c1
    rw [if_pos c1]
    refine Ev.steps (B := (21, [(0, .ref 31)], [.int 0], h)) 1 rfl ?_
    exact Ev.ret rfl
  · have c1 := of_decide_eq_false c1
    rw [if_neg c1]
    refine Ev.steps (B := (13, [(0, .ref 31)], [.int (h.1 31 1)], h)) 2 rfl ?_
    refine Ev.br (b := decide ((h.1 31 1) ≤ 0)) rfl (fun c2 => ?_) (fun c2 => ?_)
    · have c2 := of_decide_eq_true c2
      rw [if_pos c2]
      refine Ev.steps (B := (21, [(0, .ref 31)], [.int 0], h)) 1 rfl ?_
      exact Ev.ret rfl
    · have c2 := of_decide_eq_false c2
      rw [if_neg c2]
      refine Ev.steps (B := (21, [(0, .ref 31)], [.int 1], h)) 2 rfl ?_
      exact Ev.ret rfl
set_option maxRecDepth 10000 in
theorem Z_X3_boils (r0 : Nat) (h : AH) : am_b01 (M_X3_boils r0 h) = true := by
  unfold M_X3_boils
  split
  · rfl
  · split
    · rfl
    · rfl
def M_X0_join (r0 : Nat) (a1 : Int32) (a2 : Int32) (h : AH) : Option AH :=
  if a1 < 0 then
    some h
  else
    if a1 < 8 then
      bif (am_in a1 8) then
        bif (am_in a1 8) then
          bif (am_in a1 8) then
            some (am_sf (am_sf (am_sa (am_sa (am_sa h (r0 + 1) (upd (h.2.1 (r0 + 1)) (Int32.toNatClampNeg a1) 1)) (r0 + 3) (upd (h.2.1 (r0 + 3)) (Int32.toNatClampNeg a1) a2)) (r0 + 4) (upd (h.2.1 (r0 + 4)) (Int32.toNatClampNeg a1) (h.1 r0 4))) r0 4 ((h.1 r0 4) + 1)) r0 5 ((h.1 r0 5) + 1))
          else none
        else none
      else none
    else
      some h
set_option maxRecDepth 10000 in
theorem E_X0_join_32 (a1 : Int32) (a2 : Int32) (h : AH) (hR : AH) (hM : M_X0_join 32 a1 a2 h = some hR) : Ev none mr_X0_join (0, [(0, .ref 32), (1, .int a1), (2, .int a2)], [], h) none hR := by
  unfold M_X0_join at hM
  refine Ev.steps (B := (1, [(0, .ref 32), (1, .int a1), (2, .int a2)], [.int a1], h)) 1 rfl ?_
  refine Ev.br (b := decide (a1 < 0)) rfl (fun c1 => ?_) (fun c1 => ?_)
  · have c1 := of_decide_eq_true c1
    rw [if_pos c1] at hM
    obtain rfl := am_s1 hM
    exact Ev.ret rfl
  · have c1 := of_decide_eq_false c1
    rw [if_neg c1] at hM
    refine Ev.steps (B := (7, [(0, .ref 32), (1, .int a1), (2, .int a2)], [.int 8, .int a1], h)) 2 rfl ?_
    refine Ev.br (b := decide (a1 < 8)) rfl (fun c2 => ?_) (fun c2 => ?_)
    · have c2 := of_decide_eq_true c2
      rw [if_pos c2] at hM
      refine Ev.steps (B := (17, [(0, .ref 32), (1, .int a1), (2, .int a2)], [.int 1, .int a1, .ref (32 + 1)], h)) 4 rfl ?_
      obtain ⟨g3, hM⟩ := am_gS hM
      refine Ev.g (B := (18, [(0, .ref 32), (1, .int a1), (2, .int a2)], [], (am_sa h (32 + 1) (upd (h.2.1 (32 + 1)) (Int32.toNatClampNeg a1) 1)))) g3 rfl ?_
      refine Ev.steps (B := (24, [(0, .ref 32), (1, .int a1), (2, .int a2)], [.int a2, .int a1, .ref (32 + 3)], (am_sa h (32 + 1) (upd (h.2.1 (32 + 1)) (Int32.toNatClampNeg a1) 1)))) 4 rfl ?_
      obtain ⟨g4, hM⟩ := am_gS hM
      refine Ev.g (B := (25, [(0, .ref 32), (1, .int a1), (2, .int a2)], [], (am_sa (am_sa h (32 + 1) (upd (h.2.1 (32 + 1)) (Int32.toNatClampNeg a1) 1)) (32 + 3) (upd (h.2.1 (32 + 3)) (Int32.toNatClampNeg a1) a2)))) g4 rfl ?_
      refine Ev.steps (B := (34, [(0, .ref 32), (1, .int a1), (2, .int a2)], [.int (h.1 32 4), .int a1, .ref (32 + 4)], (am_sa (am_sa h (32 + 1) (upd (h.2.1 (32 + 1)) (Int32.toNatClampNeg a1) 1)) (32 + 3) (upd (h.2.1 (32 + 3)) (Int32.toNatClampNeg a1) a2)))) 5 rfl ?_
      obtain ⟨g5, hM⟩ := am_gS hM
      refine Ev.g (B := (35, [(0, .ref 32), (1, .int a1), (2, .int a2)], [], (am_sa (am_sa (am_sa h (32 + 1) (upd (h.2.1 (32 + 1)) (Int32.toNatClampNeg a1) 1)) (32 + 3) (upd (h.2.1 (32 + 3)) (Int32.toNatClampNeg a1) a2)) (32 + 4) (upd (h.2.1 (32 + 4)) (Int32.toNatClampNeg a1) (h.1 32 4))))) g5 rfl ?_
      refine Ev.steps (B := (55, [(0, .ref 32), (1, .int a1), (2, .int a2)], [], (am_sf (am_sf (am_sa (am_sa (am_sa h (32 + 1) (upd (h.2.1 (32 + 1)) (Int32.toNatClampNeg a1) 1)) (32 + 3) (upd (h.2.1 (32 + 3)) (Int32.toNatClampNeg a1) a2)) (32 + 4) (upd (h.2.1 (32 + 4)) (Int32.toNatClampNeg a1) (h.1 32 4))) 32 4 ((h.1 32 4) + 1)) 32 5 ((h.1 32 5) + 1)))) 12 rfl ?_
      obtain rfl := am_s1 hM
      exact Ev.ret rfl
    · have c2 := of_decide_eq_false c2
      rw [if_neg c2] at hM
      obtain rfl := am_s1 hM
      exact Ev.ret rfl
def L_X0_lineUp_40 (n : Nat) (r0 : Nat) (r1 : Nat) : Nat → Int32 → Int32 → AH → Option AH
  | 0, _, _, _ => none
  | m + 1, x2, x3, h =>
    if (h.1 r1 3) ≤ x3 then
      some h
    else
      if 8 ≤ x3 then
        some h
      else
        bif (am_in x3 8) then
          if ((h.2.1 (r0 + 1)) (Int32.toNatClampNeg x3)) = 2 then
            bif (am_in x3 8) then
              bif (am_in x3 8) then
                if ((((h.2.1 (r0 + 3)) (Int32.toNatClampNeg x3)) + 3) + ((h.2.1 (r1 + 2)) (Int32.toNatClampNeg x3))) = x2 then
                  am_v (M_X0_join r0 x3 x2 h) fun h1 =>
                  L_X0_lineUp_40 n r0 r1 m x2 (x3 + 1) h1
                else
                  L_X0_lineUp_40 n r0 r1 m x2 (x3 + 1) h
              else none
            else none
          else
            L_X0_lineUp_40 n r0 r1 m x2 (x3 + 1) h
        else none
set_option maxRecDepth 10000 in
theorem E_L_X0_lineUp_40_32_8 (n : Nat) (hR : AH) : ∀ (m : Nat) (x2 : Int32) (x3 : Int32) (h : AH), L_X0_lineUp_40 n 32 8 m x2 x3 h = some hR → Ev none mr_X0_lineUp (40, [(0, .ref 32), (1, .ref 8), (2, .int x2), (3, .int x3)], [], h) none hR := by
  intro m
  induction m with
  | zero =>
    intro x2 x3 h hM
    exact (am_no hM).elim
  | succ m ih =>
    intro x2 x3 h hM
    rw [L_X0_lineUp_40] at hM
    refine Ev.steps (B := (45, [(0, .ref 32), (1, .ref 8), (2, .int x2), (3, .int x3)], [.int (h.1 8 3), .int x3], h)) 3 rfl ?_
    refine Ev.br (b := decide ((h.1 8 3) ≤ x3)) rfl (fun c1 => ?_) (fun c1 => ?_)
    · have c1 := of_decide_eq_true c1
      rw [if_pos c1] at hM
      obtain rfl := am_s1 hM
      exact Ev.ret rfl
    · have c1 := of_decide_eq_false c1
      rw [if_neg c1] at hM
      refine Ev.steps (B := (51, [(0, .ref 32), (1, .ref 8), (2, .int x2), (3, .int x3)], [.int 8, .int x3], h)) 2 rfl ?_
      refine Ev.br (b := decide (8 ≤ x3)) rfl (fun c2 => ?_) (fun c2 => ?_)
      · have c2 := of_decide_eq_true c2
        rw [if_pos c2] at hM
        obtain rfl := am_s1 hM
        exact Ev.ret rfl
      · have c2 := of_decide_eq_false c2
        rw [if_neg c2] at hM
        refine Ev.steps (B := (59, [(0, .ref 32), (1, .ref 8), (2, .int x2), (3, .int x3)], [.int x3, .ref (32 + 1)], h)) 3 rfl ?_
        obtain ⟨g3, hM⟩ := am_gS hM
        refine Ev.g (B := (60, [(0, .ref 32), (1, .ref 8), (2, .int x2), (3, .int x3)], [.int ((h.2.1 (32 + 1)) (Int32.toNatClampNeg x3))], h)) g3 rfl ?_
        refine Ev.steps (B := (61, [(0, .ref 32), (1, .ref 8), (2, .int x2), (3, .int x3)], [.int 2, .int ((h.2.1 (32 + 1)) (Int32.toNatClampNeg x3))], h)) 1 rfl ?_
        refine Ev.br (b := decide (¬ ((h.2.1 (32 + 1)) (Int32.toNatClampNeg x3)) = 2)) rfl (fun c4 => ?_) (fun c4 => ?_)
        · have c4 := of_decide_eq_true c4
          rw [if_neg c4] at hM
          refine Ev.steps (B := (40, [(3, .int (x3 + 1)), (0, .ref 32), (1, .ref 8), (2, .int x2)], [], h)) 2 rfl ?_
          refine Ev.lv (lv := [(0, .ref 32), (1, .ref 8), (2, .int x2), (3, .int (x3 + 1))]) ⟨rfl, rfl, rfl, rfl, trivial⟩ rfl rfl ?_
          exact ih x2 (x3 + 1) h hM
        · have c4 := Decidable.of_not_not (of_decide_eq_false c4)
          rw [if_pos c4] at hM
          refine Ev.steps (B := (69, [(0, .ref 32), (1, .ref 8), (2, .int x2), (3, .int x3)], [.int x3, .ref (32 + 3)], h)) 3 rfl ?_
          obtain ⟨g5, hM⟩ := am_gS hM
          refine Ev.g (B := (70, [(0, .ref 32), (1, .ref 8), (2, .int x2), (3, .int x3)], [.int ((h.2.1 (32 + 3)) (Int32.toNatClampNeg x3))], h)) g5 rfl ?_
          refine Ev.steps (B := (77, [(0, .ref 32), (1, .ref 8), (2, .int x2), (3, .int x3)], [.int x3, .ref (8 + 2), .int (((h.2.1 (32 + 3)) (Int32.toNatClampNeg x3)) + 3)], h)) 5 rfl ?_
          obtain ⟨g6, hM⟩ := am_gS hM
          refine Ev.g (B := (78, [(0, .ref 32), (1, .ref 8), (2, .int x2), (3, .int x3)], [.int ((h.2.1 (8 + 2)) (Int32.toNatClampNeg x3)), .int (((h.2.1 (32 + 3)) (Int32.toNatClampNeg x3)) + 3)], h)) g6 rfl ?_
          refine Ev.steps (B := (80, [(0, .ref 32), (1, .ref 8), (2, .int x2), (3, .int x3)], [.int x2, .int ((((h.2.1 (32 + 3)) (Int32.toNatClampNeg x3)) + 3) + ((h.2.1 (8 + 2)) (Int32.toNatClampNeg x3)))], h)) 2 rfl ?_
          refine Ev.br (b := decide (¬ ((((h.2.1 (32 + 3)) (Int32.toNatClampNeg x3)) + 3) + ((h.2.1 (8 + 2)) (Int32.toNatClampNeg x3))) = x2)) rfl (fun c7 => ?_) (fun c7 => ?_)
          · have c7 := of_decide_eq_true c7
            rw [if_neg c7] at hM
            refine Ev.steps (B := (40, [(3, .int (x3 + 1)), (0, .ref 32), (1, .ref 8), (2, .int x2)], [], h)) 2 rfl ?_
            refine Ev.lv (lv := [(0, .ref 32), (1, .ref 8), (2, .int x2), (3, .int (x3 + 1))]) ⟨rfl, rfl, rfl, rfl, trivial⟩ rfl rfl ?_
            exact ih x2 (x3 + 1) h hM
          · have c7 := Decidable.of_not_not (of_decide_eq_false c7)
            rw [if_pos c7] at hM
            refine Ev.steps (B := (86, [(0, .ref 32), (1, .ref 8), (2, .int x2), (3, .int x3)], [.int x2, .int x3, .ref 32], h)) 3 rfl ?_
            obtain ⟨h1, e8, hM⟩ := am_vS hM
            refine Ev.call (q := (mr_X0_join, [.ref 32, .int x3, .int x2], [])) rfl (E_X0_join_32 x3 x2 h h1 e8) ?_
            refine Ev.steps (B := (40, [(3, .int (x3 + 1)), (0, .ref 32), (1, .ref 8), (2, .int x2)], [], h1)) 2 rfl ?_
            refine Ev.lv (lv := [(0, .ref 32), (1, .ref 8), (2, .int x2), (3, .int (x3 + 1))]) ⟨rfl, rfl, rfl, rfl, trivial⟩ rfl rfl ?_
            exact ih x2 (x3 + 1) h1 hM
def L_X0_lineUp_2 (n : Nat) (r0 : Nat) (r1 : Nat) : Nat → Int32 → Int32 → AH → Option AH
  | 0, _, _, _ => none
  | m + 1, x2, x3, h =>
    if (h.1 r1 3) ≤ x3 then
      L_X0_lineUp_40 n r0 r1 n x2 0 h
    else
      if 8 ≤ x3 then
        L_X0_lineUp_40 n r0 r1 n x2 0 h
      else
        bif (am_in x3 8) then
          if ((h.2.1 (r1 + 1)) (Int32.toNatClampNeg x3)) = x2 then
            am_v (M_X0_join r0 x3 x2 h) fun h1 =>
            L_X0_lineUp_2 n r0 r1 m x2 (x3 + 1) h1
          else
            L_X0_lineUp_2 n r0 r1 m x2 (x3 + 1) h
        else none
set_option maxRecDepth 10000 in
theorem E_L_X0_lineUp_2_32_8 (n : Nat) (hR : AH) : ∀ (m : Nat) (x2 : Int32) (x3 : Int32) (h : AH), L_X0_lineUp_2 n 32 8 m x2 x3 h = some hR → Ev none mr_X0_lineUp (2, [(0, .ref 32), (1, .ref 8), (2, .int x2), (3, .int x3)], [], h) none hR := by
  intro m
  induction m with
  | zero =>
    intro x2 x3 h hM
    exact (am_no hM).elim
  | succ m ih =>
    intro x2 x3 h hM
    rw [L_X0_lineUp_2] at hM
    refine Ev.steps (B := (7, [(0, .ref 32), (1, .ref 8), (2, .int x2), (3, .int x3)], [.int (h.1 8 3), .int x3], h)) 3 rfl ?_
    refine Ev.br (b := decide ((h.1 8 3) ≤ x3)) rfl (fun c1 => ?_) (fun c1 => ?_)
    · have c1 := of_decide_eq_true c1
      rw [if_pos c1] at hM
      refine Ev.steps (B := (40, [(3, .int 0), (0, .ref 32), (1, .ref 8), (2, .int x2)], [], h)) 2 rfl ?_
      refine Ev.lv (lv := [(0, .ref 32), (1, .ref 8), (2, .int x2), (3, .int 0)]) ⟨rfl, rfl, rfl, rfl, trivial⟩ rfl rfl ?_
      exact E_L_X0_lineUp_40_32_8 n hR n x2 0 h hM
    · have c1 := of_decide_eq_false c1
      rw [if_neg c1] at hM
      refine Ev.steps (B := (13, [(0, .ref 32), (1, .ref 8), (2, .int x2), (3, .int x3)], [.int 8, .int x3], h)) 2 rfl ?_
      refine Ev.br (b := decide (8 ≤ x3)) rfl (fun c2 => ?_) (fun c2 => ?_)
      · have c2 := of_decide_eq_true c2
        rw [if_pos c2] at hM
        refine Ev.steps (B := (40, [(3, .int 0), (0, .ref 32), (1, .ref 8), (2, .int x2)], [], h)) 2 rfl ?_
        refine Ev.lv (lv := [(0, .ref 32), (1, .ref 8), (2, .int x2), (3, .int 0)]) ⟨rfl, rfl, rfl, rfl, trivial⟩ rfl rfl ?_
        exact E_L_X0_lineUp_40_32_8 n hR n x2 0 h hM
      · have c2 := of_decide_eq_false c2
        rw [if_neg c2] at hM
        refine Ev.steps (B := (21, [(0, .ref 32), (1, .ref 8), (2, .int x2), (3, .int x3)], [.int x3, .ref (8 + 1)], h)) 3 rfl ?_
        obtain ⟨g3, hM⟩ := am_gS hM
        refine Ev.g (B := (22, [(0, .ref 32), (1, .ref 8), (2, .int x2), (3, .int x3)], [.int ((h.2.1 (8 + 1)) (Int32.toNatClampNeg x3))], h)) g3 rfl ?_
        refine Ev.steps (B := (23, [(0, .ref 32), (1, .ref 8), (2, .int x2), (3, .int x3)], [.int x2, .int ((h.2.1 (8 + 1)) (Int32.toNatClampNeg x3))], h)) 1 rfl ?_
        refine Ev.br (b := decide (¬ ((h.2.1 (8 + 1)) (Int32.toNatClampNeg x3)) = x2)) rfl (fun c4 => ?_) (fun c4 => ?_)
        · have c4 := of_decide_eq_true c4
          rw [if_neg c4] at hM
          refine Ev.steps (B := (2, [(3, .int (x3 + 1)), (0, .ref 32), (1, .ref 8), (2, .int x2)], [], h)) 2 rfl ?_
          refine Ev.lv (lv := [(0, .ref 32), (1, .ref 8), (2, .int x2), (3, .int (x3 + 1))]) ⟨rfl, rfl, rfl, rfl, trivial⟩ rfl rfl ?_
          exact ih x2 (x3 + 1) h hM
        · have c4 := Decidable.of_not_not (of_decide_eq_false c4)
          rw [if_pos c4] at hM
          refine Ev.steps (B := (29, [(0, .ref 32), (1, .ref 8), (2, .int x2), (3, .int x3)], [.int x2, .int x3, .ref 32], h)) 3 rfl ?_
          obtain ⟨h1, e5, hM⟩ := am_vS hM
          refine Ev.call (q := (mr_X0_join, [.ref 32, .int x3, .int x2], [])) rfl (E_X0_join_32 x3 x2 h h1 e5) ?_
          refine Ev.steps (B := (2, [(3, .int (x3 + 1)), (0, .ref 32), (1, .ref 8), (2, .int x2)], [], h1)) 2 rfl ?_
          refine Ev.lv (lv := [(0, .ref 32), (1, .ref 8), (2, .int x2), (3, .int (x3 + 1))]) ⟨rfl, rfl, rfl, rfl, trivial⟩ rfl rfl ?_
          exact ih x2 (x3 + 1) h1 hM
def M_X0_lineUp (n : Nat) (r0 : Nat) (r1 : Nat) (a2 : Int32) (h : AH) : Option AH :=
  L_X0_lineUp_2 n r0 r1 n a2 0 h
set_option maxRecDepth 10000 in
theorem E_X0_lineUp_32_8 (n : Nat) (a2 : Int32) (h : AH) (hR : AH) (hM : M_X0_lineUp n 32 8 a2 h = some hR) : Ev none mr_X0_lineUp (0, [(0, .ref 32), (1, .ref 8), (2, .int a2)], [], h) none hR := by
  unfold M_X0_lineUp at hM
  refine Ev.steps (B := (2, [(3, .int 0), (0, .ref 32), (1, .ref 8), (2, .int a2)], [], h)) 2 rfl ?_
  refine Ev.lv (lv := [(0, .ref 32), (1, .ref 8), (2, .int a2), (3, .int 0)]) ⟨rfl, rfl, rfl, rfl, trivial⟩ rfl rfl ?_
  exact E_L_X0_lineUp_2_32_8 n hR n a2 0 h hM
def B_X0_serve_83 (n : Nat) (r0 : Nat) (r1 : Nat) (r2 : Nat) (x3 : Int32) (x4 : Int32) (h : AH) : Option (Int32 × AH) :=
  if 0 ≤ x4 then
    bif (am_in x4 8) then
      bif (am_in x4 8) then
        bif (am_in x4 8) then
          bif (am_in x4 8) then
            bif (am_in x4 8) then
              bif (am_in x4 8) then
                if ((upd (h.2.1 (r0 + 2)) (Int32.toNatClampNeg x4) (((h.2.1 (r0 + 2)) (Int32.toNatClampNeg x4)) + 1)) (Int32.toNatClampNeg x4)) < ((h.2.1 (r1 + 3)) (Int32.toNatClampNeg x4)) then
                  bif (am_in x4 8) then
                    some (x4, (am_sa (am_sf (am_sf (am_sa (am_sa (am_sf (am_sf h r2 2 ((h.1 r2 2) - (1 + (2 * ((h.2.1 (r1 + 2)) (Int32.toNatClampNeg x4)))))) r2 1 ((h.1 r2 1) - 1)) (r0 + 2) (upd (h.2.1 (r0 + 2)) (Int32.toNatClampNeg x4) (((h.2.1 (r0 + 2)) (Int32.toNatClampNeg x4)) + 1))) (r0 + 3) (upd (h.2.1 (r0 + 3)) (Int32.toNatClampNeg x4) x3)) r0 5 ((h.1 r0 5) - 1)) r0 6 ((h.1 r0 6) + 1)) (r0 + 1) (upd (h.2.1 (r0 + 1)) (Int32.toNatClampNeg x4) 2)))
                  else none
                else
                  bif (am_in x4 8) then
                    some (x4, (am_sf (am_sa (am_sf (am_sf (am_sa (am_sa (am_sf (am_sf h r2 2 ((h.1 r2 2) - (1 + (2 * ((h.2.1 (r1 + 2)) (Int32.toNatClampNeg x4)))))) r2 1 ((h.1 r2 1) - 1)) (r0 + 2) (upd (h.2.1 (r0 + 2)) (Int32.toNatClampNeg x4) (((h.2.1 (r0 + 2)) (Int32.toNatClampNeg x4)) + 1))) (r0 + 3) (upd (h.2.1 (r0 + 3)) (Int32.toNatClampNeg x4) x3)) r0 5 ((h.1 r0 5) - 1)) r0 6 ((h.1 r0 6) + 1)) (r0 + 1) (upd (h.2.1 (r0 + 1)) (Int32.toNatClampNeg x4) 3)) r0 7 ((h.1 r0 7) ||| (1 <<< (x4 &&& 31)))))
                  else none
              else none
            else none
          else none
        else none
      else none
    else none
  else
    some ((-1), h)
set_option maxRecDepth 10000 in
theorem E_B_X0_serve_83_32_8_31 (n : Nat) (vR : Int32) (hR : AH) (x3 : Int32) (x4 : Int32) (h : AH) (hM : B_X0_serve_83 n 32 8 31 x3 x4 h = some (vR, hR)) : Ev none mr_X0_serve (83, [(0, .ref 32), (1, .ref 8), (2, .ref 31), (3, .int x3), (4, .int x4)], [], h) (some (.int vR)) hR := by
  unfold B_X0_serve_83 at hM
  refine Ev.steps (B := (85, [(0, .ref 32), (1, .ref 8), (2, .ref 31), (3, .int x3), (4, .int x4)], [.int x4], h)) 1 rfl ?_
  refine Ev.br (b := decide (0 ≤ x4)) rfl (fun c1 => ?_) (fun c1 => ?_)
  · have c1 := of_decide_eq_true c1
    rw [if_pos c1] at hM
    refine Ev.steps (B := (103, [(0, .ref 32), (1, .ref 8), (2, .ref 31), (3, .int x3), (4, .int x4)], [.int x4, .ref (8 + 2), .int 2, .int 1, .int (h.1 31 2), .ref 31], h)) 8 rfl ?_
    obtain ⟨g2, hM⟩ := am_gS hM
    refine Ev.g (B := (104, [(0, .ref 32), (1, .ref 8), (2, .ref 31), (3, .int x3), (4, .int x4)], [.int ((h.2.1 (8 + 2)) (Int32.toNatClampNeg x4)), .int 2, .int 1, .int (h.1 31 2), .ref 31], h)) g2 rfl ?_
    refine Ev.steps (B := (127, [(0, .ref 32), (1, .ref 8), (2, .ref 31), (3, .int x3), (4, .int x4)], [.int x4, .ref (32 + 2), .int x4, .ref (32 + 2)], (am_sf (am_sf h 31 2 ((h.1 31 2) - (1 + (2 * ((h.2.1 (8 + 2)) (Int32.toNatClampNeg x4)))))) 31 1 ((h.1 31 1) - 1)))) 14 rfl ?_
    obtain ⟨g3, hM⟩ := am_gS hM
    refine Ev.g (B := (128, [(0, .ref 32), (1, .ref 8), (2, .ref 31), (3, .int x3), (4, .int x4)], [.int ((h.2.1 (32 + 2)) (Int32.toNatClampNeg x4)), .int x4, .ref (32 + 2)], (am_sf (am_sf h 31 2 ((h.1 31 2) - (1 + (2 * ((h.2.1 (8 + 2)) (Int32.toNatClampNeg x4)))))) 31 1 ((h.1 31 1) - 1)))) g3 rfl ?_
    refine Ev.steps (B := (130, [(0, .ref 32), (1, .ref 8), (2, .ref 31), (3, .int x3), (4, .int x4)], [.int (((h.2.1 (32 + 2)) (Int32.toNatClampNeg x4)) + 1), .int x4, .ref (32 + 2)], (am_sf (am_sf h 31 2 ((h.1 31 2) - (1 + (2 * ((h.2.1 (8 + 2)) (Int32.toNatClampNeg x4)))))) 31 1 ((h.1 31 1) - 1)))) 2 rfl ?_
    obtain ⟨g4, hM⟩ := am_gS hM
    refine Ev.g (B := (131, [(0, .ref 32), (1, .ref 8), (2, .ref 31), (3, .int x3), (4, .int x4)], [], (am_sa (am_sf (am_sf h 31 2 ((h.1 31 2) - (1 + (2 * ((h.2.1 (8 + 2)) (Int32.toNatClampNeg x4)))))) 31 1 ((h.1 31 1) - 1)) (32 + 2) (upd (h.2.1 (32 + 2)) (Int32.toNatClampNeg x4) (((h.2.1 (32 + 2)) (Int32.toNatClampNeg x4)) + 1))))) g4 rfl ?_
    refine Ev.steps (B := (138, [(0, .ref 32), (1, .ref 8), (2, .ref 31), (3, .int x3), (4, .int x4)], [.int x3, .int x4, .ref (32 + 3)], (am_sa (am_sf (am_sf h 31 2 ((h.1 31 2) - (1 + (2 * ((h.2.1 (8 + 2)) (Int32.toNatClampNeg x4)))))) 31 1 ((h.1 31 1) - 1)) (32 + 2) (upd (h.2.1 (32 + 2)) (Int32.toNatClampNeg x4) (((h.2.1 (32 + 2)) (Int32.toNatClampNeg x4)) + 1))))) 4 rfl ?_
    obtain ⟨g5, hM⟩ := am_gS hM
    refine Ev.g (B := (139, [(0, .ref 32), (1, .ref 8), (2, .ref 31), (3, .int x3), (4, .int x4)], [], (am_sa (am_sa (am_sf (am_sf h 31 2 ((h.1 31 2) - (1 + (2 * ((h.2.1 (8 + 2)) (Int32.toNatClampNeg x4)))))) 31 1 ((h.1 31 1) - 1)) (32 + 2) (upd (h.2.1 (32 + 2)) (Int32.toNatClampNeg x4) (((h.2.1 (32 + 2)) (Int32.toNatClampNeg x4)) + 1))) (32 + 3) (upd (h.2.1 (32 + 3)) (Int32.toNatClampNeg x4) x3)))) g5 rfl ?_
    refine Ev.steps (B := (165, [(0, .ref 32), (1, .ref 8), (2, .ref 31), (3, .int x3), (4, .int x4)], [.int x4, .ref (32 + 2)], (am_sf (am_sf (am_sa (am_sa (am_sf (am_sf h 31 2 ((h.1 31 2) - (1 + (2 * ((h.2.1 (8 + 2)) (Int32.toNatClampNeg x4)))))) 31 1 ((h.1 31 1) - 1)) (32 + 2) (upd (h.2.1 (32 + 2)) (Int32.toNatClampNeg x4) (((h.2.1 (32 + 2)) (Int32.toNatClampNeg x4)) + 1))) (32 + 3) (upd (h.2.1 (32 + 3)) (Int32.toNatClampNeg x4) x3)) 32 5 ((h.1 32 5) - 1)) 32 6 ((h.1 32 6) + 1)))) 15 rfl ?_
    obtain ⟨g6, hM⟩ := am_gS hM
    refine Ev.g (B := (166, [(0, .ref 32), (1, .ref 8), (2, .ref 31), (3, .int x3), (4, .int x4)], [.int ((upd (h.2.1 (32 + 2)) (Int32.toNatClampNeg x4) (((h.2.1 (32 + 2)) (Int32.toNatClampNeg x4)) + 1)) (Int32.toNatClampNeg x4))], (am_sf (am_sf (am_sa (am_sa (am_sf (am_sf h 31 2 ((h.1 31 2) - (1 + (2 * ((h.2.1 (8 + 2)) (Int32.toNatClampNeg x4)))))) 31 1 ((h.1 31 1) - 1)) (32 + 2) (upd (h.2.1 (32 + 2)) (Int32.toNatClampNeg x4) (((h.2.1 (32 + 2)) (Int32.toNatClampNeg x4)) + 1))) (32 + 3) (upd (h.2.1 (32 + 3)) (Int32.toNatClampNeg x4) x3)) 32 5 ((h.1 32 5) - 1)) 32 6 ((h.1 32 6) + 1)))) g6 rfl ?_
    refine Ev.steps (B := (172, [(0, .ref 32), (1, .ref 8), (2, .ref 31), (3, .int x3), (4, .int x4)], [.int x4, .ref (8 + 3), .int ((upd (h.2.1 (32 + 2)) (Int32.toNatClampNeg x4) (((h.2.1 (32 + 2)) (Int32.toNatClampNeg x4)) + 1)) (Int32.toNatClampNeg x4))], (am_sf (am_sf (am_sa (am_sa (am_sf (am_sf h 31 2 ((h.1 31 2) - (1 + (2 * ((h.2.1 (8 + 2)) (Int32.toNatClampNeg x4)))))) 31 1 ((h.1 31 1) - 1)) (32 + 2) (upd (h.2.1 (32 + 2)) (Int32.toNatClampNeg x4) (((h.2.1 (32 + 2)) (Int32.toNatClampNeg x4)) + 1))) (32 + 3) (upd (h.2.1 (32 + 3)) (Int32.toNatClampNeg x4) x3)) 32 5 ((h.1 32 5) - 1)) 32 6 ((h.1 32 6) + 1)))) 3 rfl ?_
    obtain ⟨g7, hM⟩ := am_gS hM
    refine Ev.g (B := (173, [(0, .ref 32), (1, .ref 8), (2, .ref 31), (3, .int x3), (4, .int x4)], [.int ((h.2.1 (8 + 3)) (Int32.toNatClampNeg x4)), .int ((upd (h.2.1 (32 + 2)) (Int32.toNatClampNeg x4) (((h.2.1 (32 + 2)) (Int32.toNatClampNeg x4)) + 1)) (Int32.toNatClampNeg x4))], (am_sf (am_sf (am_sa (am_sa (am_sf (am_sf h 31 2 ((h.1 31 2) - (1 + (2 * ((h.2.1 (8 + 2)) (Int32.toNatClampNeg x4)))))) 31 1 ((h.1 31 1) - 1)) (32 + 2) (upd (h.2.1 (32 + 2)) (Int32.toNatClampNeg x4) (((h.2.1 (32 + 2)) (Int32.toNatClampNeg x4)) + 1))) (32 + 3) (upd (h.2.1 (32 + 3)) (Int32.toNatClampNeg x4) x3)) 32 5 ((h.1 32 5) - 1)) 32 6 ((h.1 32 6) + 1)))) g7 rfl ?_
    refine Ev.br (b := decide (((upd (h.2.1 (32 + 2)) (Int32.toNatClampNeg x4) (((h.2.1 (32 + 2)) (Int32.toNatClampNeg x4)) + 1)) (Int32.toNatClampNeg x4)) < ((h.2.1 (8 + 3)) (Int32.toNatClampNeg x4)))) rfl (fun c8 => ?_) (fun c8 => ?_)
    · have c8 := of_decide_eq_true c8
      rw [if_pos c8] at hM
      refine Ev.steps (B := (207, [(0, .ref 32), (1, .ref 8), (2, .ref 31), (3, .int x3), (4, .int x4)], [.int 2, .int x4, .ref (32 + 1)], (am_sf (am_sf (am_sa (am_sa (am_sf (am_sf h 31 2 ((h.1 31 2) - (1 + (2 * ((h.2.1 (8 + 2)) (Int32.toNatClampNeg x4)))))) 31 1 ((h.1 31 1) - 1)) (32 + 2) (upd (h.2.1 (32 + 2)) (Int32.toNatClampNeg x4) (((h.2.1 (32 + 2)) (Int32.toNatClampNeg x4)) + 1))) (32 + 3) (upd (h.2.1 (32 + 3)) (Int32.toNatClampNeg x4) x3)) 32 5 ((h.1 32 5) - 1)) 32 6 ((h.1 32 6) + 1)))) 4 rfl ?_
      obtain ⟨g9, hM⟩ := am_gS hM
      refine Ev.g (B := (208, [(0, .ref 32), (1, .ref 8), (2, .ref 31), (3, .int x3), (4, .int x4)], [], (am_sa (am_sf (am_sf (am_sa (am_sa (am_sf (am_sf h 31 2 ((h.1 31 2) - (1 + (2 * ((h.2.1 (8 + 2)) (Int32.toNatClampNeg x4)))))) 31 1 ((h.1 31 1) - 1)) (32 + 2) (upd (h.2.1 (32 + 2)) (Int32.toNatClampNeg x4) (((h.2.1 (32 + 2)) (Int32.toNatClampNeg x4)) + 1))) (32 + 3) (upd (h.2.1 (32 + 3)) (Int32.toNatClampNeg x4) x3)) 32 5 ((h.1 32 5) - 1)) 32 6 ((h.1 32 6) + 1)) (32 + 1) (upd (h.2.1 (32 + 1)) (Int32.toNatClampNeg x4) 2)))) g9 rfl ?_
      refine Ev.steps (B := (210, [(0, .ref 32), (1, .ref 8), (2, .ref 31), (3, .int x3), (4, .int x4)], [.int x4], (am_sa (am_sf (am_sf (am_sa (am_sa (am_sf (am_sf h 31 2 ((h.1 31 2) - (1 + (2 * ((h.2.1 (8 + 2)) (Int32.toNatClampNeg x4)))))) 31 1 ((h.1 31 1) - 1)) (32 + 2) (upd (h.2.1 (32 + 2)) (Int32.toNatClampNeg x4) (((h.2.1 (32 + 2)) (Int32.toNatClampNeg x4)) + 1))) (32 + 3) (upd (h.2.1 (32 + 3)) (Int32.toNatClampNeg x4) x3)) 32 5 ((h.1 32 5) - 1)) 32 6 ((h.1 32 6) + 1)) (32 + 1) (upd (h.2.1 (32 + 1)) (Int32.toNatClampNeg x4) 2)))) 1 rfl ?_
      obtain ⟨rfl, rfl⟩ := am_sp hM
      exact Ev.ret rfl
    · have c8 := of_decide_eq_false c8
      rw [if_neg c8] at hM
      refine Ev.steps (B := (183, [(0, .ref 32), (1, .ref 8), (2, .ref 31), (3, .int x3), (4, .int x4)], [.int 3, .int x4, .ref (32 + 1)], (am_sf (am_sf (am_sa (am_sa (am_sf (am_sf h 31 2 ((h.1 31 2) - (1 + (2 * ((h.2.1 (8 + 2)) (Int32.toNatClampNeg x4)))))) 31 1 ((h.1 31 1) - 1)) (32 + 2) (upd (h.2.1 (32 + 2)) (Int32.toNatClampNeg x4) (((h.2.1 (32 + 2)) (Int32.toNatClampNeg x4)) + 1))) (32 + 3) (upd (h.2.1 (32 + 3)) (Int32.toNatClampNeg x4) x3)) 32 5 ((h.1 32 5) - 1)) 32 6 ((h.1 32 6) + 1)))) 4 rfl ?_
      obtain ⟨g10, hM⟩ := am_gS hM
      refine Ev.g (B := (184, [(0, .ref 32), (1, .ref 8), (2, .ref 31), (3, .int x3), (4, .int x4)], [], (am_sa (am_sf (am_sf (am_sa (am_sa (am_sf (am_sf h 31 2 ((h.1 31 2) - (1 + (2 * ((h.2.1 (8 + 2)) (Int32.toNatClampNeg x4)))))) 31 1 ((h.1 31 1) - 1)) (32 + 2) (upd (h.2.1 (32 + 2)) (Int32.toNatClampNeg x4) (((h.2.1 (32 + 2)) (Int32.toNatClampNeg x4)) + 1))) (32 + 3) (upd (h.2.1 (32 + 3)) (Int32.toNatClampNeg x4) x3)) 32 5 ((h.1 32 5) - 1)) 32 6 ((h.1 32 6) + 1)) (32 + 1) (upd (h.2.1 (32 + 1)) (Int32.toNatClampNeg x4) 3)))) g10 rfl ?_
      refine Ev.steps (B := (210, [(0, .ref 32), (1, .ref 8), (2, .ref 31), (3, .int x3), (4, .int x4)], [.int x4], (am_sf (am_sa (am_sf (am_sf (am_sa (am_sa (am_sf (am_sf h 31 2 ((h.1 31 2) - (1 + (2 * ((h.2.1 (8 + 2)) (Int32.toNatClampNeg x4)))))) 31 1 ((h.1 31 1) - 1)) (32 + 2) (upd (h.2.1 (32 + 2)) (Int32.toNatClampNeg x4) (((h.2.1 (32 + 2)) (Int32.toNatClampNeg x4)) + 1))) (32 + 3) (upd (h.2.1 (32 + 3)) (Int32.toNatClampNeg x4) x3)) 32 5 ((h.1 32 5) - 1)) 32 6 ((h.1 32 6) + 1)) (32 + 1) (upd (h.2.1 (32 + 1)) (Int32.toNatClampNeg x4) 3)) 32 7 ((h.1 32 7) ||| (1 <<< (x4 &&& 31)))))) 10 rfl ?_
      obtain ⟨rfl, rfl⟩ := am_sp hM
      exact Ev.ret rfl
  · have c1 := of_decide_eq_false c1
    rw [if_neg c1] at hM
    refine Ev.steps (B := (89, [(0, .ref 32), (1, .ref 8), (2, .ref 31), (3, .int x3), (4, .int x4)], [.int (-1)], h)) 1 rfl ?_
    obtain ⟨rfl, rfl⟩ := am_sp hM
    exact Ev.ret rfl
def B_X0_serve_73 (n : Nat) (k6 : Int32 → Int32 → Int32 → AH → Option (Int32 × AH)) (r0 : Nat) (r1 : Nat) (r2 : Nat) (x3 : Int32) (x5 : Int32) (h : AH) : Option (Int32 × AH) :=
  k6 x3 x5 (x5 + 1) h
set_option maxRecDepth 10000 in
theorem E_B_X0_serve_73_32_8_31 (n : Nat) (k6 : Int32 → Int32 → Int32 → AH → Option (Int32 × AH)) (vR : Int32) (hR : AH) (hk6 : ∀ (x3 : Int32) (x4 : Int32) (x5 : Int32) (h0 : AH), k6 x3 x4 x5 h0 = some (vR, hR) → Ev none mr_X0_serve (6, [(0, .ref 32), (1, .ref 8), (2, .ref 31), (3, .int x3), (4, .int x4), (5, .int x5)], [], h0) (some (.int vR)) hR) (x3 : Int32) (x5 : Int32) (h : AH) (hM : B_X0_serve_73 n k6 32 8 31 x3 x5 h = some (vR, hR)) : Ev none mr_X0_serve (73, [(0, .ref 32), (1, .ref 8), (2, .ref 31), (3, .int x3), (5, .int x5)], [], h) (some (.int vR)) hR := by
  unfold B_X0_serve_73 at hM
  refine Ev.steps (B := (6, [(5, .int (x5 + 1)), (4, .int x5), (0, .ref 32), (1, .ref 8), (2, .ref 31), (3, .int x3)], [], h)) 4 rfl ?_
  refine Ev.lv (lv := [(0, .ref 32), (1, .ref 8), (2, .ref 31), (3, .int x3), (4, .int x5), (5, .int (x5 + 1))]) ⟨rfl, rfl, rfl, rfl, rfl, rfl, trivial⟩ rfl rfl ?_
  exact hk6 x3 x5 (x5 + 1) h hM
def L_X0_serve_6 (n : Nat) (r0 : Nat) (r1 : Nat) (r2 : Nat) : Nat → Int32 → Int32 → Int32 → AH → Option (Int32 × AH)
  | 0, _, _, _, _ => none
  | m + 1, x3, x4, x5, h =>
    if (h.1 r1 3) ≤ x5 then
      B_X0_serve_83 n r0 r1 r2 x3 x4 h
    else
      if 8 ≤ x5 then
        B_X0_serve_83 n r0 r1 r2 x3 x4 h
      else
        bif (am_in x5 8) then
          if ((h.2.1 (r0 + 1)) (Int32.toNatClampNeg x5)) = 1 then
            bif (am_in x5 8) then
              if (h.1 r2 2) < (1 + (2 * ((h.2.1 (r1 + 2)) (Int32.toNatClampNeg x5)))) then
                L_X0_serve_6 n r0 r1 r2 m x3 x4 (x5 + 1) h
              else
                if x4 < 0 then
                  B_X0_serve_73 n (L_X0_serve_6 n r0 r1 r2 m) r0 r1 r2 x3 x5 h
                else
                  bif (am_in x5 8) then
                    bif (am_in x4 8) then
                      if ((h.2.1 (r0 + 4)) (Int32.toNatClampNeg x4)) ≤ ((h.2.1 (r0 + 4)) (Int32.toNatClampNeg x5)) then
                        L_X0_serve_6 n r0 r1 r2 m x3 x4 (x5 + 1) h
                      else
                        B_X0_serve_73 n (L_X0_serve_6 n r0 r1 r2 m) r0 r1 r2 x3 x5 h
                    else none
                  else none
            else none
          else
            L_X0_serve_6 n r0 r1 r2 m x3 x4 (x5 + 1) h
        else none
set_option maxRecDepth 10000 in
theorem E_L_X0_serve_6_32_8_31 (n : Nat) (vR : Int32) (hR : AH) : ∀ (m : Nat) (x3 : Int32) (x4 : Int32) (x5 : Int32) (h : AH), L_X0_serve_6 n 32 8 31 m x3 x4 x5 h = some (vR, hR) → Ev none mr_X0_serve (6, [(0, .ref 32), (1, .ref 8), (2, .ref 31), (3, .int x3), (4, .int x4), (5, .int x5)], [], h) (some (.int vR)) hR := by
  intro m
  induction m with
  | zero =>
    intro x3 x4 x5 h hM
    exact (am_no hM).elim
  | succ m ih =>
    intro x3 x4 x5 h hM
    rw [L_X0_serve_6] at hM
    refine Ev.steps (B := (12, [(0, .ref 32), (1, .ref 8), (2, .ref 31), (3, .int x3), (4, .int x4), (5, .int x5)], [.int (h.1 8 3), .int x5], h)) 3 rfl ?_
    refine Ev.br (b := decide ((h.1 8 3) ≤ x5)) rfl (fun c1 => ?_) (fun c1 => ?_)
    · have c1 := of_decide_eq_true c1
      rw [if_pos c1] at hM
      refine Ev.lv (lv := [(0, .ref 32), (1, .ref 8), (2, .ref 31), (3, .int x3), (4, .int x4)]) ⟨rfl, rfl, rfl, rfl, rfl, trivial⟩ rfl rfl ?_
      exact E_B_X0_serve_83_32_8_31 n vR hR x3 x4 h hM
    · have c1 := of_decide_eq_false c1
      rw [if_neg c1] at hM
      refine Ev.steps (B := (19, [(0, .ref 32), (1, .ref 8), (2, .ref 31), (3, .int x3), (4, .int x4), (5, .int x5)], [.int 8, .int x5], h)) 2 rfl ?_
      refine Ev.br (b := decide (8 ≤ x5)) rfl (fun c2 => ?_) (fun c2 => ?_)
      · have c2 := of_decide_eq_true c2
        rw [if_pos c2] at hM
        refine Ev.lv (lv := [(0, .ref 32), (1, .ref 8), (2, .ref 31), (3, .int x3), (4, .int x4)]) ⟨rfl, rfl, rfl, rfl, rfl, trivial⟩ rfl rfl ?_
        exact E_B_X0_serve_83_32_8_31 n vR hR x3 x4 h hM
      · have c2 := of_decide_eq_false c2
        rw [if_neg c2] at hM
        refine Ev.steps (B := (28, [(0, .ref 32), (1, .ref 8), (2, .ref 31), (3, .int x3), (4, .int x4), (5, .int x5)], [.int x5, .ref (32 + 1)], h)) 3 rfl ?_
        obtain ⟨g3, hM⟩ := am_gS hM
        refine Ev.g (B := (29, [(0, .ref 32), (1, .ref 8), (2, .ref 31), (3, .int x3), (4, .int x4), (5, .int x5)], [.int ((h.2.1 (32 + 1)) (Int32.toNatClampNeg x5))], h)) g3 rfl ?_
        refine Ev.steps (B := (30, [(0, .ref 32), (1, .ref 8), (2, .ref 31), (3, .int x3), (4, .int x4), (5, .int x5)], [.int 1, .int ((h.2.1 (32 + 1)) (Int32.toNatClampNeg x5))], h)) 1 rfl ?_
        refine Ev.br (b := decide (¬ ((h.2.1 (32 + 1)) (Int32.toNatClampNeg x5)) = 1)) rfl (fun c4 => ?_) (fun c4 => ?_)
        · have c4 := of_decide_eq_true c4
          rw [if_neg c4] at hM
          refine Ev.steps (B := (6, [(5, .int (x5 + 1)), (0, .ref 32), (1, .ref 8), (2, .ref 31), (3, .int x3), (4, .int x4)], [], h)) 2 rfl ?_
          refine Ev.lv (lv := [(0, .ref 32), (1, .ref 8), (2, .ref 31), (3, .int x3), (4, .int x4), (5, .int (x5 + 1))]) ⟨rfl, rfl, rfl, rfl, rfl, rfl, trivial⟩ rfl rfl ?_
          exact ih x3 x4 (x5 + 1) h hM
        · have c4 := Decidable.of_not_not (of_decide_eq_false c4)
          rw [if_pos c4] at hM
          refine Ev.steps (B := (45, [(0, .ref 32), (1, .ref 8), (2, .ref 31), (3, .int x3), (4, .int x4), (5, .int x5)], [.int x5, .ref (8 + 2), .int 2, .int 1, .int (h.1 31 2)], h)) 7 rfl ?_
          obtain ⟨g5, hM⟩ := am_gS hM
          refine Ev.g (B := (46, [(0, .ref 32), (1, .ref 8), (2, .ref 31), (3, .int x3), (4, .int x4), (5, .int x5)], [.int ((h.2.1 (8 + 2)) (Int32.toNatClampNeg x5)), .int 2, .int 1, .int (h.1 31 2)], h)) g5 rfl ?_
          refine Ev.steps (B := (48, [(0, .ref 32), (1, .ref 8), (2, .ref 31), (3, .int x3), (4, .int x4), (5, .int x5)], [.int (1 + (2 * ((h.2.1 (8 + 2)) (Int32.toNatClampNeg x5)))), .int (h.1 31 2)], h)) 2 rfl ?_
          refine Ev.br (b := decide ((h.1 31 2) < (1 + (2 * ((h.2.1 (8 + 2)) (Int32.toNatClampNeg x5)))))) rfl (fun c6 => ?_) (fun c6 => ?_)
          · have c6 := of_decide_eq_true c6
            rw [if_pos c6] at hM
            refine Ev.steps (B := (6, [(5, .int (x5 + 1)), (0, .ref 32), (1, .ref 8), (2, .ref 31), (3, .int x3), (4, .int x4)], [], h)) 2 rfl ?_
            refine Ev.lv (lv := [(0, .ref 32), (1, .ref 8), (2, .ref 31), (3, .int x3), (4, .int x4), (5, .int (x5 + 1))]) ⟨rfl, rfl, rfl, rfl, rfl, rfl, trivial⟩ rfl rfl ?_
            exact ih x3 x4 (x5 + 1) h hM
          · have c6 := of_decide_eq_false c6
            rw [if_neg c6] at hM
            refine Ev.steps (B := (53, [(0, .ref 32), (1, .ref 8), (2, .ref 31), (3, .int x3), (4, .int x4), (5, .int x5)], [.int x4], h)) 1 rfl ?_
            refine Ev.br (b := decide (x4 < 0)) rfl (fun c7 => ?_) (fun c7 => ?_)
            · have c7 := of_decide_eq_true c7
              rw [if_pos c7] at hM
              refine Ev.lv (lv := [(0, .ref 32), (1, .ref 8), (2, .ref 31), (3, .int x3), (5, .int x5)]) ⟨rfl, rfl, rfl, rfl, rfl, trivial⟩ rfl rfl ?_
              exact E_B_X0_serve_73_32_8_31 n (L_X0_serve_6 n 32 8 31 m) vR hR ih x3 x5 h hM
            · have c7 := of_decide_eq_false c7
              rw [if_neg c7] at hM
              refine Ev.steps (B := (62, [(0, .ref 32), (1, .ref 8), (2, .ref 31), (3, .int x3), (4, .int x4), (5, .int x5)], [.int x5, .ref (32 + 4)], h)) 3 rfl ?_
              obtain ⟨g8, hM⟩ := am_gS hM
              refine Ev.g (B := (63, [(0, .ref 32), (1, .ref 8), (2, .ref 31), (3, .int x3), (4, .int x4), (5, .int x5)], [.int ((h.2.1 (32 + 4)) (Int32.toNatClampNeg x5))], h)) g8 rfl ?_
              refine Ev.steps (B := (69, [(0, .ref 32), (1, .ref 8), (2, .ref 31), (3, .int x3), (4, .int x4), (5, .int x5)], [.int x4, .ref (32 + 4), .int ((h.2.1 (32 + 4)) (Int32.toNatClampNeg x5))], h)) 3 rfl ?_
              obtain ⟨g9, hM⟩ := am_gS hM
              refine Ev.g (B := (70, [(0, .ref 32), (1, .ref 8), (2, .ref 31), (3, .int x3), (4, .int x4), (5, .int x5)], [.int ((h.2.1 (32 + 4)) (Int32.toNatClampNeg x4)), .int ((h.2.1 (32 + 4)) (Int32.toNatClampNeg x5))], h)) g9 rfl ?_
              refine Ev.br (b := decide (((h.2.1 (32 + 4)) (Int32.toNatClampNeg x4)) ≤ ((h.2.1 (32 + 4)) (Int32.toNatClampNeg x5)))) rfl (fun c10 => ?_) (fun c10 => ?_)
              · have c10 := of_decide_eq_true c10
                rw [if_pos c10] at hM
                refine Ev.steps (B := (6, [(5, .int (x5 + 1)), (0, .ref 32), (1, .ref 8), (2, .ref 31), (3, .int x3), (4, .int x4)], [], h)) 2 rfl ?_
                refine Ev.lv (lv := [(0, .ref 32), (1, .ref 8), (2, .ref 31), (3, .int x3), (4, .int x4), (5, .int (x5 + 1))]) ⟨rfl, rfl, rfl, rfl, rfl, rfl, trivial⟩ rfl rfl ?_
                exact ih x3 x4 (x5 + 1) h hM
              · have c10 := of_decide_eq_false c10
                rw [if_neg c10] at hM
                refine Ev.lv (lv := [(0, .ref 32), (1, .ref 8), (2, .ref 31), (3, .int x3), (5, .int x5)]) ⟨rfl, rfl, rfl, rfl, rfl, trivial⟩ rfl rfl ?_
                exact E_B_X0_serve_73_32_8_31 n (L_X0_serve_6 n 32 8 31 m) vR hR ih x3 x5 h hM
def M_X0_serve (n : Nat) (r0 : Nat) (r1 : Nat) (r2 : Nat) (a3 : Int32) (h : AH) : Option (Int32 × AH) :=
  L_X0_serve_6 n r0 r1 r2 n a3 (-1) 0 h
set_option maxRecDepth 10000 in
theorem E_X0_serve_32_8_31 (n : Nat) (a3 : Int32) (h : AH) (vR : Int32) (hR : AH) (hM : M_X0_serve n 32 8 31 a3 h = some (vR, hR)) : Ev none mr_X0_serve (0, [(0, .ref 32), (1, .ref 8), (2, .ref 31), (3, .int a3)], [], h) (some (.int vR)) hR := by
  unfold M_X0_serve at hM
  refine Ev.steps (B := (6, [(5, .int 0), (4, .int (-1)), (0, .ref 32), (1, .ref 8), (2, .ref 31), (3, .int a3)], [], h)) 4 rfl ?_
  refine Ev.lv (lv := [(0, .ref 32), (1, .ref 8), (2, .ref 31), (3, .int a3), (4, .int (-1)), (5, .int 0)]) ⟨rfl, rfl, rfl, rfl, rfl, rfl, trivial⟩ rfl rfl ?_
  exact E_L_X0_serve_6_32_8_31 n vR hR n a3 (-1) 0 h hM
def L_X0_losePatience_2 (n : Nat) (r0 : Nat) : Nat → Int32 → Int32 → AH → Option AH
  | 0, _, _, _ => none
  | m + 1, x1, x2, h =>
    if 8 ≤ x2 then
      some h
    else
      bif (am_in x2 8) then
        if ((h.2.1 (r0 + 1)) (Int32.toNatClampNeg x2)) = 1 then
          bif (am_in x2 8) then
            if ((x1 - ((h.2.1 (r0 + 3)) (Int32.toNatClampNeg x2))) + 1) < 6 then
              L_X0_losePatience_2 n r0 m x1 (x2 + 1) h
            else
              bif (am_in x2 8) then
                L_X0_losePatience_2 n r0 m x1 (x2 + 1) (am_sf (am_sf (am_sa h (r0 + 1) (upd (h.2.1 (r0 + 1)) (Int32.toNatClampNeg x2) 4)) r0 8 ((h.1 r0 8) ||| (1 <<< (x2 &&& 31)))) r0 5 ((h.1 r0 5) - 1))
              else none
          else none
        else
          L_X0_losePatience_2 n r0 m x1 (x2 + 1) h
      else none
set_option maxRecDepth 10000 in
theorem E_L_X0_losePatience_2_32 (n : Nat) (hR : AH) : ∀ (m : Nat) (x1 : Int32) (x2 : Int32) (h : AH), L_X0_losePatience_2 n 32 m x1 x2 h = some hR → Ev none mr_X0_losePatience (2, [(0, .ref 32), (1, .int x1), (2, .int x2)], [], h) none hR := by
  intro m
  induction m with
  | zero =>
    intro x1 x2 h hM
    exact (am_no hM).elim
  | succ m ih =>
    intro x1 x2 h hM
    rw [L_X0_losePatience_2] at hM
    refine Ev.steps (B := (5, [(0, .ref 32), (1, .int x1), (2, .int x2)], [.int 8, .int x2], h)) 2 rfl ?_
    refine Ev.br (b := decide (8 ≤ x2)) rfl (fun c1 => ?_) (fun c1 => ?_)
    · have c1 := of_decide_eq_true c1
      rw [if_pos c1] at hM
      obtain rfl := am_s1 hM
      exact Ev.ret rfl
    · have c1 := of_decide_eq_false c1
      rw [if_neg c1] at hM
      refine Ev.steps (B := (13, [(0, .ref 32), (1, .int x1), (2, .int x2)], [.int x2, .ref (32 + 1)], h)) 3 rfl ?_
      obtain ⟨g2, hM⟩ := am_gS hM
      refine Ev.g (B := (14, [(0, .ref 32), (1, .int x1), (2, .int x2)], [.int ((h.2.1 (32 + 1)) (Int32.toNatClampNeg x2))], h)) g2 rfl ?_
      refine Ev.steps (B := (15, [(0, .ref 32), (1, .int x1), (2, .int x2)], [.int 1, .int ((h.2.1 (32 + 1)) (Int32.toNatClampNeg x2))], h)) 1 rfl ?_
      refine Ev.br (b := decide (¬ ((h.2.1 (32 + 1)) (Int32.toNatClampNeg x2)) = 1)) rfl (fun c3 => ?_) (fun c3 => ?_)
      · have c3 := of_decide_eq_true c3
        rw [if_neg c3] at hM
        refine Ev.steps (B := (2, [(2, .int (x2 + 1)), (0, .ref 32), (1, .int x1)], [], h)) 2 rfl ?_
        refine Ev.lv (lv := [(0, .ref 32), (1, .int x1), (2, .int (x2 + 1))]) ⟨rfl, rfl, rfl, trivial⟩ rfl rfl ?_
        exact ih x1 (x2 + 1) h hM
      · have c3 := Decidable.of_not_not (of_decide_eq_false c3)
        rw [if_pos c3] at hM
        refine Ev.steps (B := (24, [(0, .ref 32), (1, .int x1), (2, .int x2)], [.int x2, .ref (32 + 3), .int x1], h)) 4 rfl ?_
        obtain ⟨g4, hM⟩ := am_gS hM
        refine Ev.g (B := (25, [(0, .ref 32), (1, .int x1), (2, .int x2)], [.int ((h.2.1 (32 + 3)) (Int32.toNatClampNeg x2)), .int x1], h)) g4 rfl ?_
        refine Ev.steps (B := (30, [(0, .ref 32), (1, .int x1), (2, .int x2)], [.int 6, .int ((x1 - ((h.2.1 (32 + 3)) (Int32.toNatClampNeg x2))) + 1)], h)) 4 rfl ?_
        refine Ev.br (b := decide (((x1 - ((h.2.1 (32 + 3)) (Int32.toNatClampNeg x2))) + 1) < 6)) rfl (fun c5 => ?_) (fun c5 => ?_)
        · have c5 := of_decide_eq_true c5
          rw [if_pos c5] at hM
          refine Ev.steps (B := (2, [(2, .int (x2 + 1)), (0, .ref 32), (1, .int x1)], [], h)) 2 rfl ?_
          refine Ev.lv (lv := [(0, .ref 32), (1, .int x1), (2, .int (x2 + 1))]) ⟨rfl, rfl, rfl, trivial⟩ rfl rfl ?_
          exact ih x1 (x2 + 1) h hM
        · have c5 := of_decide_eq_false c5
          rw [if_neg c5] at hM
          refine Ev.steps (B := (39, [(0, .ref 32), (1, .int x1), (2, .int x2)], [.int 4, .int x2, .ref (32 + 1)], h)) 4 rfl ?_
          obtain ⟨g6, hM⟩ := am_gS hM
          refine Ev.g (B := (40, [(0, .ref 32), (1, .int x1), (2, .int x2)], [], (am_sa h (32 + 1) (upd (h.2.1 (32 + 1)) (Int32.toNatClampNeg x2) 4)))) g6 rfl ?_
          refine Ev.steps (B := (2, [(2, .int (x2 + 1)), (0, .ref 32), (1, .int x1)], [], (am_sf (am_sf (am_sa h (32 + 1) (upd (h.2.1 (32 + 1)) (Int32.toNatClampNeg x2) 4)) 32 8 ((h.1 32 8) ||| (1 <<< (x2 &&& 31)))) 32 5 ((h.1 32 5) - 1)))) 16 rfl ?_
          refine Ev.lv (lv := [(0, .ref 32), (1, .int x1), (2, .int (x2 + 1))]) ⟨rfl, rfl, rfl, trivial⟩ rfl rfl ?_
          exact ih x1 (x2 + 1) (am_sf (am_sf (am_sa h (32 + 1) (upd (h.2.1 (32 + 1)) (Int32.toNatClampNeg x2) 4)) 32 8 ((h.1 32 8) ||| (1 <<< (x2 &&& 31)))) 32 5 ((h.1 32 5) - 1)) hM
def M_X0_losePatience (n : Nat) (r0 : Nat) (a1 : Int32) (h : AH) : Option AH :=
  L_X0_losePatience_2 n r0 n a1 0 h
set_option maxRecDepth 10000 in
theorem E_X0_losePatience_32 (n : Nat) (a1 : Int32) (h : AH) (hR : AH) (hM : M_X0_losePatience n 32 a1 h = some hR) : Ev none mr_X0_losePatience (0, [(0, .ref 32), (1, .int a1)], [], h) none hR := by
  unfold M_X0_losePatience at hM
  refine Ev.steps (B := (2, [(2, .int 0), (0, .ref 32), (1, .int a1)], [], h)) 2 rfl ?_
  refine Ev.lv (lv := [(0, .ref 32), (1, .int a1), (2, .int 0)]) ⟨rfl, rfl, rfl, trivial⟩ rfl rfl ?_
  exact E_L_X0_losePatience_2_32 n hR n a1 0 h hM
def M_X2_note (r0 : Nat) (a1 : Int32) (h : AH) : Option AH :=
  if (M_X8_within a1 23) = 0 then
    some h
  else
    bif (am_in a1 24) then
      bif (am_in a1 24) then
        bif (am_in a1 24) then
          bif (am_in a1 24) then
            bif (am_cpok 0 (a1 * 8) 8 8 192) then
              bif (am_cpok 0 (a1 * 8) 8 8 192) then
                some (am_sa (am_sa (am_sa (am_sa (am_sa (am_sa h (r0 + 1) (upd (h.2.1 (r0 + 1)) (Int32.toNatClampNeg a1) (h.1 (r0 + 9) 0))) (r0 + 2) (upd (h.2.1 (r0 + 2)) (Int32.toNatClampNeg a1) (h.1 (r0 + 9) 1))) (r0 + 3) (upd (h.2.1 (r0 + 3)) (Int32.toNatClampNeg a1) (h.1 (r0 + 9) 2))) (r0 + 6) (upd (h.2.1 (r0 + 6)) (Int32.toNatClampNeg a1) (h.1 (r0 + 10) 5))) (r0 + 7) (va_cpy (h.2.1 (r0 + 11)) (h.2.1 (r0 + 7)) (Int32.toNatClampNeg 0) (Int32.toNatClampNeg (a1 * 8)) (Int32.toNatClampNeg 8))) (r0 + 8) (va_cpy (h.2.1 (r0 + 12)) (h.2.1 (r0 + 8)) (Int32.toNatClampNeg 0) (Int32.toNatClampNeg (a1 * 8)) (Int32.toNatClampNeg 8)))
              else none
            else none
          else none
        else none
      else none
    else none
set_option maxRecDepth 10000 in
theorem E_X2_note_22 (a1 : Int32) (h : AH) (hR : AH) (hM : M_X2_note 22 a1 h = some hR) : Ev none mr_X2_note (0, [(0, .ref 22), (1, .int a1)], [], h) none hR := by
  unfold M_X2_note at hM
  refine Ev.steps (B := (3, [(0, .ref 22), (1, .int a1)], [.int 23, .int a1], h)) 2 rfl ?_
  refine Ev.call (q := (mr_X8_within, [.int a1, .int 23], [])) rfl (E_X8_within a1 23 h) ?_
  refine Ev.br (b := decide (¬ (M_X8_within a1 23) = 0)) rfl (fun c1 => ?_) (fun c1 => ?_)
  · have c1 := of_decide_eq_true c1
    rw [if_neg c1] at hM
    refine Ev.steps (B := (22, [(0, .ref 22), (1, .int a1)], [.int (h.1 (22 + 9) 0), .int a1, .ref (22 + 1)], h)) 6 rfl ?_
    obtain ⟨g2, hM⟩ := am_gS hM
    refine Ev.g (B := (23, [(0, .ref 22), (1, .int a1)], [], (am_sa h (22 + 1) (upd (h.2.1 (22 + 1)) (Int32.toNatClampNeg a1) (h.1 (22 + 9) 0))))) g2 rfl ?_
    refine Ev.steps (B := (35, [(0, .ref 22), (1, .int a1)], [.int (h.1 (22 + 9) 1), .int a1, .ref (22 + 2)], (am_sa h (22 + 1) (upd (h.2.1 (22 + 1)) (Int32.toNatClampNeg a1) (h.1 (22 + 9) 0))))) 6 rfl ?_
    obtain ⟨g3, hM⟩ := am_gS hM
    refine Ev.g (B := (36, [(0, .ref 22), (1, .int a1)], [], (am_sa (am_sa h (22 + 1) (upd (h.2.1 (22 + 1)) (Int32.toNatClampNeg a1) (h.1 (22 + 9) 0))) (22 + 2) (upd (h.2.1 (22 + 2)) (Int32.toNatClampNeg a1) (h.1 (22 + 9) 1))))) g3 rfl ?_
    refine Ev.steps (B := (48, [(0, .ref 22), (1, .int a1)], [.int (h.1 (22 + 9) 2), .int a1, .ref (22 + 3)], (am_sa (am_sa h (22 + 1) (upd (h.2.1 (22 + 1)) (Int32.toNatClampNeg a1) (h.1 (22 + 9) 0))) (22 + 2) (upd (h.2.1 (22 + 2)) (Int32.toNatClampNeg a1) (h.1 (22 + 9) 1))))) 6 rfl ?_
    obtain ⟨g4, hM⟩ := am_gS hM
    refine Ev.g (B := (49, [(0, .ref 22), (1, .int a1)], [], (am_sa (am_sa (am_sa h (22 + 1) (upd (h.2.1 (22 + 1)) (Int32.toNatClampNeg a1) (h.1 (22 + 9) 0))) (22 + 2) (upd (h.2.1 (22 + 2)) (Int32.toNatClampNeg a1) (h.1 (22 + 9) 1))) (22 + 3) (upd (h.2.1 (22 + 3)) (Int32.toNatClampNeg a1) (h.1 (22 + 9) 2))))) g4 rfl ?_
    refine Ev.steps (B := (61, [(0, .ref 22), (1, .int a1)], [.int (h.1 (22 + 10) 5), .int a1, .ref (22 + 6)], (am_sa (am_sa (am_sa h (22 + 1) (upd (h.2.1 (22 + 1)) (Int32.toNatClampNeg a1) (h.1 (22 + 9) 0))) (22 + 2) (upd (h.2.1 (22 + 2)) (Int32.toNatClampNeg a1) (h.1 (22 + 9) 1))) (22 + 3) (upd (h.2.1 (22 + 3)) (Int32.toNatClampNeg a1) (h.1 (22 + 9) 2))))) 6 rfl ?_
    obtain ⟨g5, hM⟩ := am_gS hM
    refine Ev.g (B := (62, [(0, .ref 22), (1, .int a1)], [], (am_sa (am_sa (am_sa (am_sa h (22 + 1) (upd (h.2.1 (22 + 1)) (Int32.toNatClampNeg a1) (h.1 (22 + 9) 0))) (22 + 2) (upd (h.2.1 (22 + 2)) (Int32.toNatClampNeg a1) (h.1 (22 + 9) 1))) (22 + 3) (upd (h.2.1 (22 + 3)) (Int32.toNatClampNeg a1) (h.1 (22 + 9) 2))) (22 + 6) (upd (h.2.1 (22 + 6)) (Int32.toNatClampNeg a1) (h.1 (22 + 10) 5))))) g5 rfl ?_
    refine Ev.steps (B := (80, [(0, .ref 22), (1, .int a1)], [.int 8, .int (a1 * 8), .ref (22 + 7), .int 0, .ref (22 + 11)], (am_sa (am_sa (am_sa (am_sa h (22 + 1) (upd (h.2.1 (22 + 1)) (Int32.toNatClampNeg a1) (h.1 (22 + 9) 0))) (22 + 2) (upd (h.2.1 (22 + 2)) (Int32.toNatClampNeg a1) (h.1 (22 + 9) 1))) (22 + 3) (upd (h.2.1 (22 + 3)) (Int32.toNatClampNeg a1) (h.1 (22 + 9) 2))) (22 + 6) (upd (h.2.1 (22 + 6)) (Int32.toNatClampNeg a1) (h.1 (22 + 10) 5))))) 10 rfl ?_
    obtain ⟨g6, hM⟩ := am_gS hM
    refine Ev.g (B := (83, [(0, .ref 22), (1, .int a1)], [], (am_sa (am_sa (am_sa (am_sa (am_sa h (22 + 1) (upd (h.2.1 (22 + 1)) (Int32.toNatClampNeg a1) (h.1 (22 + 9) 0))) (22 + 2) (upd (h.2.1 (22 + 2)) (Int32.toNatClampNeg a1) (h.1 (22 + 9) 1))) (22 + 3) (upd (h.2.1 (22 + 3)) (Int32.toNatClampNeg a1) (h.1 (22 + 9) 2))) (22 + 6) (upd (h.2.1 (22 + 6)) (Int32.toNatClampNeg a1) (h.1 (22 + 10) 5))) (22 + 7) (va_cpy (h.2.1 (22 + 11)) (h.2.1 (22 + 7)) (Int32.toNatClampNeg 0) (Int32.toNatClampNeg (a1 * 8)) (Int32.toNatClampNeg 8))))) g6 rfl ?_
    refine Ev.steps (B := (101, [(0, .ref 22), (1, .int a1)], [.int 8, .int (a1 * 8), .ref (22 + 8), .int 0, .ref (22 + 12)], (am_sa (am_sa (am_sa (am_sa (am_sa h (22 + 1) (upd (h.2.1 (22 + 1)) (Int32.toNatClampNeg a1) (h.1 (22 + 9) 0))) (22 + 2) (upd (h.2.1 (22 + 2)) (Int32.toNatClampNeg a1) (h.1 (22 + 9) 1))) (22 + 3) (upd (h.2.1 (22 + 3)) (Int32.toNatClampNeg a1) (h.1 (22 + 9) 2))) (22 + 6) (upd (h.2.1 (22 + 6)) (Int32.toNatClampNeg a1) (h.1 (22 + 10) 5))) (22 + 7) (va_cpy (h.2.1 (22 + 11)) (h.2.1 (22 + 7)) (Int32.toNatClampNeg 0) (Int32.toNatClampNeg (a1 * 8)) (Int32.toNatClampNeg 8))))) 10 rfl ?_
    obtain ⟨g7, hM⟩ := am_gS hM
    refine Ev.g (B := (104, [(0, .ref 22), (1, .int a1)], [], (am_sa (am_sa (am_sa (am_sa (am_sa (am_sa h (22 + 1) (upd (h.2.1 (22 + 1)) (Int32.toNatClampNeg a1) (h.1 (22 + 9) 0))) (22 + 2) (upd (h.2.1 (22 + 2)) (Int32.toNatClampNeg a1) (h.1 (22 + 9) 1))) (22 + 3) (upd (h.2.1 (22 + 3)) (Int32.toNatClampNeg a1) (h.1 (22 + 9) 2))) (22 + 6) (upd (h.2.1 (22 + 6)) (Int32.toNatClampNeg a1) (h.1 (22 + 10) 5))) (22 + 7) (va_cpy (h.2.1 (22 + 11)) (h.2.1 (22 + 7)) (Int32.toNatClampNeg 0) (Int32.toNatClampNeg (a1 * 8)) (Int32.toNatClampNeg 8))) (22 + 8) (va_cpy (h.2.1 (22 + 12)) (h.2.1 (22 + 8)) (Int32.toNatClampNeg 0) (Int32.toNatClampNeg (a1 * 8)) (Int32.toNatClampNeg 8))))) g7 rfl ?_
    obtain rfl := am_s1 hM
    exact Ev.ret rfl
  · have c1 := Decidable.of_not_not (of_decide_eq_false c1)
    rw [if_pos c1] at hM
    obtain rfl := am_s1 hM
    exact Ev.ret rfl
def B_X2_pass_145 (n : Nat) (k30 : Int32 → AH → Option AH) (r0 : Nat) (r1 : Nat) (x2 : Int32) (h : AH) : Option AH :=
  am_v (M_X2_note r0 x2 h) fun h1 =>
  k30 (x2 + 1) h1
set_option maxRecDepth 10000 in
theorem E_B_X2_pass_145_22_21 (n : Nat) (k30 : Int32 → AH → Option AH) (hR : AH) (hk30 : ∀ (x2 : Int32) (h0 : AH), k30 x2 h0 = some hR → Ev none mr_X2_pass (30, [(0, .ref 22), (1, .ref 21), (2, .int x2)], [], h0) none hR) (x2 : Int32) (h : AH) (hM : B_X2_pass_145 n k30 22 21 x2 h = some hR) : Ev none mr_X2_pass (145, [(0, .ref 22), (1, .ref 21), (2, .int x2)], [], h) none hR := by
  unfold B_X2_pass_145 at hM
  refine Ev.steps (B := (147, [(0, .ref 22), (1, .ref 21), (2, .int x2)], [.int x2, .ref 22], h)) 2 rfl ?_
  obtain ⟨h1, e1, hM⟩ := am_vS hM
  refine Ev.call (q := (mr_X2_note, [.ref 22, .int x2], [])) rfl (E_X2_note_22 x2 h h1 e1) ?_
  refine Ev.steps (B := (30, [(2, .int (x2 + 1)), (0, .ref 22), (1, .ref 21)], [], h1)) 2 rfl ?_
  refine Ev.lv (lv := [(0, .ref 22), (1, .ref 21), (2, .int (x2 + 1))]) ⟨rfl, rfl, rfl, trivial⟩ rfl rfl ?_
  exact hk30 (x2 + 1) h1 hM
